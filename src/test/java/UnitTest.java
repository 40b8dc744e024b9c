/** Promises 13, 14, 15, 16, 18: unit, go, arrive, needed, unitAt. */
public final class UnitTest {
    private static final Check check = new Check();

    public static void main(String[] args) {
        numbersAndRoom();
        comingAndGoing();
        goRefusals();
        arriveRefusals();
        whatIsNeeded();
        neededRefusals();
        unitAtRefusals();
        check.end();
    }

    private static SecondWaves forty() {
        SecondWaves x = new SecondWaves();
        for (int i = 0; i < 40; i++) {
            check.same("unit number", x.unit(i % 8), i);
        }
        return x;
    }

    /** Unit 0 is free, 1 under way, 2 there, 3 free; incident 0 is open, 1 closed. */
    private static SecondWaves world() {
        SecondWaves x = new SecondWaves();
        x.begin();
        x.begin();
        x.close(1);
        for (int i = 0; i < 4; i++) {
            x.unit(2);
        }
        x.go(1, 0, 0);
        x.go(2, 0, 99999);
        x.arrive(2);
        return x;
    }

    private static SecondWaves fortyAtTwelve() {
        SecondWaves x = forty();
        for (int i = 0; i < 12; i++) {
            x.begin();
        }
        return x;
    }

    private static void numbersAndRoom() {
        check.same("a new unit is free", Check.unitSeen(forty(), 39), "0 -1 -1 ");
        check.refused("unit 40", Check.ROOM, UnitTest::forty, x -> x.unit(0));
        check.refusedOutside("skill", Check.UNKNOWN, 0, 7, UnitTest::world, n -> x -> x.unit(n));
        check.refusedOutside("skill before room", Check.UNKNOWN, 0, 7, UnitTest::forty, n -> x -> x.unit(n));
    }

    private static void comingAndGoing() {
        SecondWaves x = world();
        check.same("free", Check.unitSeen(x, 0), "0 -1 -1 ");
        check.same("under way", Check.unitSeen(x, 1), "1 0 0 ");
        check.same("there, with the distance it came by", Check.unitSeen(x, 2), "2 0 99999 ");
        x.tick(5000);
        check.same("time alone brings nobody there", x.unitAt(1, 0), 1);
        x.arrive(1);
        check.same("there", Check.unitSeen(x, 1), "2 0 0 ");
        int other = x.begin();
        x.go(3, other, 12);
        check.same("elsewhere", Check.unitSeen(x, 3), "1 2 12 ");
    }

    private static void goRefusals() {
        check.refusedOutside("unit", Check.UNKNOWN, 0, 3, UnitTest::world, n -> x -> x.go(n, 0, 5));
        check.refusedOutside("incident", Check.UNKNOWN, 0, 1, UnitTest::world, n -> x -> x.go(0, n, 5));
        check.refusedOutside("distance", Check.RANGE, 0, 99999, UnitTest::world, n -> x -> x.go(0, 0, n));
        check.refusedOutside("unit of forty", Check.UNKNOWN, 0, 39, UnitTest::fortyAtTwelve, n -> x -> x.go(n, 0, 5));
        check.refusedOutside("incident of twelve", Check.UNKNOWN, 0, 11, UnitTest::fortyAtTwelve,
                n -> x -> x.go(0, n, 5));
        check.refused("neither unit nor incident", Check.UNKNOWN, SecondWaves::new, x -> x.go(0, 0, 0));
        check.refused("under way", Check.STATE, UnitTest::world, x -> x.go(1, 0, 5));
        check.refused("there", Check.STATE, UnitTest::world, x -> x.go(2, 0, 5));
        check.refused("closed", Check.STATE, UnitTest::world, x -> x.go(0, 1, 5));
        check.refused("unknown before range", Check.UNKNOWN, UnitTest::world, x -> x.go(4, 0, -1));
        check.refused("unknown before range", Check.UNKNOWN, UnitTest::world, x -> x.go(0, 2, 100000));
        check.refused("unknown before state", Check.UNKNOWN, UnitTest::world, x -> x.go(1, 2, 5));
        check.refused("range before state", Check.RANGE, UnitTest::world, x -> x.go(1, 0, -1));
        check.refused("range before closed", Check.RANGE, UnitTest::world, x -> x.go(0, 1, 100000));
    }

    private static void arriveRefusals() {
        check.refusedOutside("unit", Check.UNKNOWN, 0, 3, UnitTest::world, n -> x -> x.arrive(n));
        check.refusedOutside("unit of forty", Check.UNKNOWN, 0, 39, UnitTest::forty, n -> x -> x.arrive(n));
        check.refused("unit 0 of none", Check.UNKNOWN, SecondWaves::new, x -> x.arrive(0));
        check.refused("free", Check.STATE, UnitTest::world, x -> x.arrive(0));
        check.refused("there", Check.STATE, UnitTest::world, x -> x.arrive(2));
    }

    private static void whatIsNeeded() {
        SecondWaves x = world();
        check.same("one there, one under way, none wanted", x.needed(0, 2), -2);
        x.row(0, 2, 2);
        check.same("just enough", x.needed(0, 2), 0);
        x.row(0, 2, 30);
        check.same("some", x.needed(0, 2), 28);
        check.same("another skill", x.needed(0, 1), 0);
        x.top(3);
        x.trigger(3, 0, 3, 0);
        x.ask(0, 0);
        check.same("the row of its step", x.needed(0, 2), -2);
        int other = x.begin();
        check.same("another incident's units do not count", x.needed(other, 2), 30);
        x.unit(7);
        x.go(4, other, 1);
        check.same("too much of skill 7", x.needed(other, 7), -1);
    }

    private static void neededRefusals() {
        check.refusedOutside("incident", Check.UNKNOWN, 0, 1, UnitTest::world, n -> x -> x.needed(n, 0));
        check.refusedOutside("skill", Check.UNKNOWN, 0, 7, UnitTest::world, n -> x -> x.needed(0, n));
        check.refused("at 0 of none", Check.UNKNOWN, SecondWaves::new, x -> x.needed(0, 0));
        check.refused("closed", Check.STATE, UnitTest::world, x -> x.needed(1, 0));
        check.refusedOutside("skill before closed", Check.UNKNOWN, 0, 7, UnitTest::world, n -> x -> x.needed(1, n));
    }

    private static void unitAtRefusals() {
        check.refusedOutside("unit", Check.UNKNOWN, 0, 3, UnitTest::world, n -> x -> x.unitAt(n, 0));
        check.refusedOutside("unit of forty", Check.UNKNOWN, 0, 39, UnitTest::forty, n -> x -> x.unitAt(n, 2));
        for (int unit = 0; unit < 3; unit++) {
            int asked = unit;
            check.refusedOutside("what", Check.UNKNOWN, 0, 2, UnitTest::world, n -> x -> x.unitAt(asked, n));
        }
    }
}
