/** Promises 5, 6, 11, 17: begin, close, tell, incident. */
public final class IncidentTest {
    private static final Check check = new Check();

    public static void main(String[] args) {
        beginnings();
        closing();
        telling();
        whatIsToldOfOne();
        fullRooms();
        check.end();
    }

    private static SecondWaves twelve() {
        SecondWaves x = new SecondWaves();
        for (int i = 0; i < 12; i++) {
            check.same("incident number", x.begin(), i);
        }
        return x;
    }

    private static SecondWaves oneOpenOneClosed() {
        SecondWaves x = new SecondWaves();
        x.top(9);
        x.trigger(3, 1, 4, 0);
        x.begin();
        x.begin();
        x.ask(1, 1);
        x.close(1);
        x.tick(7);
        return x;
    }

    private static void beginnings() {
        SecondWaves x = new SecondWaves();
        x.row(0, 2, 3);
        x.begin();
        x.tick(40);
        x.begin();
        check.same("begun at 0", Check.incidentSeen(x, 0), "0 1 0 0 0 0 0 0 0 3 0 0 0 0 0 ");
        check.same("begun at 40", Check.incidentSeen(x, 1), "0 1 0 40 0 0 0 0 0 3 0 0 0 0 0 ");
        check.refused("incident 12", Check.ROOM, IncidentTest::twelve, SecondWaves::begin);
        SecondWaves full = twelve();
        full.close(3);
        check.same("a closed one makes no room", Check.thrownBy(full::begin).getName(), Check.ROOM.getName());
    }

    private static void closing() {
        SecondWaves x = oneOpenOneClosed();
        for (int i = 0; i < 4; i++) {
            x.unit(0);
        }
        x.go(0, 0, 5);
        x.go(1, 0, 6);
        x.arrive(1);
        int other = x.begin();
        x.go(2, other, 7);
        x.close(0);
        check.same("closed", x.incident(0, 1), 0);
        check.same("the other is open", x.incident(other, 1), 1);
        check.same("under way there", Check.unitSeen(x, 0), "0 -1 -1 ");
        check.same("there", Check.unitSeen(x, 1), "0 -1 -1 ");
        check.same("under way elsewhere", Check.unitSeen(x, 2), "1 2 7 ");
        check.same("free before", Check.unitSeen(x, 3), "0 -1 -1 ");
        check.same("none of them was recalled", x.count(2), 0);
        x.go(1, other, 1);
        check.same("it may go again", Check.unitSeen(x, 1), "1 2 1 ");
        check.same("a closed one keeps its step", x.incident(1, 0), 4);
        check.same("closing is no step down", x.incident(1, 6), 0);
        check.refusedOutside("close", Check.UNKNOWN, 0, 1, IncidentTest::oneOpenOneClosed, n -> y -> y.close(n));
        check.refusedOutside("close", Check.UNKNOWN, 0, 11, IncidentTest::twelve, n -> y -> y.close(n));
        check.refused("close 0 of none", Check.UNKNOWN, SecondWaves::new, y -> y.close(0));
        check.refused("close again", Check.STATE, IncidentTest::oneOpenOneClosed, y -> y.close(1));
        SecondWaves last = twelve();
        last.close(11);
        check.same("the last is closed", last.incident(11, 1), 0);
        check.same("its neighbour is open", last.incident(10, 1), 1);
    }

    private static void telling() {
        SecondWaves x = oneOpenOneClosed();
        x.begin();
        x.tick(3);
        x.tell(0);
        check.same("told at 10", x.incident(0, 3), 10);
        check.same("not at the other", x.incident(2, 3), 7);
        check.refusedOutside("tell", Check.UNKNOWN, 0, 1, IncidentTest::oneOpenOneClosed, n -> y -> y.tell(n));
        check.refusedOutside("tell", Check.UNKNOWN, 0, 11, IncidentTest::twelve, n -> y -> y.tell(n));
        check.refused("tell 0 of none", Check.UNKNOWN, SecondWaves::new, y -> y.tell(0));
        check.refused("tell a closed one", Check.STATE, IncidentTest::oneOpenOneClosed, y -> y.tell(1));
    }

    private static void whatIsToldOfOne() {
        SecondWaves x = oneOpenOneClosed();
        x.trigger(0, 5, 6, 0);
        x.hurt(0, 12);
        x.ask(0, 1);
        x.ask(0, 1);
        x.word(0, 5);
        x.calm(0, 2);
        x.calm(0, 1);
        x.tell(0);
        int[] due = {1, 1, 12, 7, 3, 2, 2};
        for (int what = 0; what < 7; what++) {
            check.same("incident(0, " + what + ")", x.incident(0, what), due[what]);
        }
        check.refusedOutside("incident", Check.UNKNOWN, 0, 1, IncidentTest::oneOpenOneClosed,
                n -> y -> y.incident(n, 0));
        check.refusedOutside("incident", Check.UNKNOWN, 0, 11, IncidentTest::twelve, n -> y -> y.incident(n, 6));
        check.refusedOutside("what", Check.UNKNOWN, 0, 6, IncidentTest::oneOpenOneClosed, n -> y -> y.incident(0, n));
        check.refusedOutside("what of a closed one", Check.UNKNOWN, 0, 6, IncidentTest::oneOpenOneClosed,
                n -> y -> y.incident(1, n));
        int[] closed = {4, 0, 0, 0, 1, 1, 0};
        for (int what = 0; what < 7; what++) {
            check.same("a closed one is told of, " + what, x.incident(1, what), closed[what]);
        }
    }

    /** Every loop goes just to the end of its rows when there is no room left. */
    private static void fullRooms() {
        SecondWaves x = twelve();
        x.top(4);
        for (int i = 0; i < 20; i++) {
            x.trigger(2, 20 - i, 4, 0);
        }
        for (int i = 0; i < 40; i++) {
            x.unit(0);
            x.go(i, i % 12, i);
        }
        check.same("all silences at all incidents", x.tick(20), 240);
        check.same("the last one's step", x.incident(11, 0), 4);
        check.same("its units", x.needed(11, 0), -3);
        check.same("recalled", x.calm(11, 0), 3);
        for (int i = 11; i > 0; i--) {
            x.close(i);
            check.same("closed", x.incident(i, 1), 0);
        }
        check.same("the first alone is above", Check.thrownBy(() -> x.top(3)).getName(), Check.STATE.getName());
        check.same("the last unit of the first", Check.unitSeen(x, 36), "1 0 36 ");
        x.close(0);
        check.same("free", Check.unitSeen(x, 36), "0 -1 -1 ");
        x.top(3);
        check.same("nobody is left to act", x.tick(5000), 0);
    }
}
