/** Promise 20: count, over all incidents together. */
public final class CountTest {
    private static final Check check = new Check();

    public static void main(String[] args) {
        SecondWaves x = busy();
        check.same("the second", x.count(0), 25);
        check.same("words that no trigger has", x.count(1), 3);
        check.same("units that were recalled", x.count(2), 2);
        check.same("triggers that acted without the step going up", x.count(3), 4);
        check.refusedOutside("what", Check.UNKNOWN, 0, 3, CountTest::busy, n -> y -> y.count(n));
        check.refusedOutside("what of a new one", Check.UNKNOWN, 0, 3, SecondWaves::new, n -> y -> y.count(n));
        for (int what = 0; what < 4; what++) {
            check.same("at first, " + what, new SecondWaves().count(what), 0);
        }
        twoObjectsAreApart();
        check.end();
    }

    private static SecondWaves busy() {
        SecondWaves x = new SecondWaves();
        x.top(3);
        x.trigger(0, 1, 2, 0);
        x.trigger(2, 10, 1, 0);
        x.begin();
        x.begin();
        for (int i = 0; i < 4; i++) {
            x.unit(i);
            x.go(i, i / 2, 10 * i);
        }
        x.word(0, 1);
        x.word(0, 1);
        x.word(0, 2);
        x.word(1, 2);
        x.word(1, 3);
        x.tick(25);
        x.calm(0, 0);
        x.word(1, 1);
        x.word(1, 1);
        x.word(1, 1);
        x.close(1);
        return x;
    }

    private static void twoObjectsAreApart() {
        SecondWaves first = busy();
        SecondWaves second = new SecondWaves();
        check.same("a second object is new", Check.seen(second), "0 0 0 0 ");
        second.tick(1);
        check.same("and leaves the first alone", first.count(0), 25);
    }
}
