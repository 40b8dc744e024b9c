/** Promise 12: calm, with the recall. */
public final class CalmTest {
    private static final Check check = new Check();

    public static void main(String[] args) {
        stepsDown();
        whateverActed();
        spansRunOn();
        orderOfRecall();
        eachSkillByItself();
        noRecallWithoutCalm();
        rowsNeedNotGrow();
        fullRoom();
        aroundTheCount();
        refusals();
        check.end();
    }

    /** Two incidents on step 5, ask 5 leads to step 5, the second is closed. */
    private static SecondWaves onStepFive() {
        SecondWaves x = new SecondWaves();
        x.top(7);
        x.trigger(3, 5, 5, 0);
        x.begin();
        x.begin();
        x.ask(0, 5);
        x.ask(1, 5);
        x.close(1);
        return x;
    }

    private static void stepsDown() {
        SecondWaves x = onStepFive();
        check.same("nobody to recall", x.calm(0, 4), 0);
        check.same("step", x.incident(0, 0), 4);
        check.same("down", x.incident(0, 6), 1);
        x.calm(0, 0);
        check.same("step", x.incident(0, 0), 0);
        check.same("down, not by steps", x.incident(0, 6), 2);
        check.same("up", x.incident(0, 5), 1);
        check.same("calm is none of the words", x.count(1), 0);
        check.same("no trigger acted by calm", x.incident(0, 4), 1);
    }

    private static void whateverActed() {
        SecondWaves x = onStepFive();
        x.calm(0, 1);
        x.ask(0, 5);
        check.same("up again in the same second", x.incident(0, 0), 5);
        x.calm(0, 1);
        check.same("down again in the same second", x.incident(0, 0), 1);
        check.same("up", x.incident(0, 5), 2);
        check.same("down", x.incident(0, 6), 2);
    }

    /** Calm is no new begin: spans run on, and neither hurt nor a silence come a second time. */
    private static void spansRunOn() {
        SecondWaves x = new SecondWaves();
        x.top(3);
        x.trigger(0, 1, 1, 20);
        x.trigger(1, 5, 2, 0);
        x.trigger(2, 10, 3, 0);
        x.begin();
        x.tick(10);
        x.word(0, 1);
        x.hurt(0, 5);
        x.calm(0, 0);
        check.same("in the same second", x.word(0, 1), 0);
        check.same("still five hurt", x.hurt(0, 5), 0);
        check.same("still silent", x.tick(19), 0);
        check.same("19 of 20 seconds", x.word(0, 1), 0);
        x.tick(1);
        check.same("20 of 20 seconds", x.word(0, 1), 1);
        check.same("step", x.incident(0, 0), 1);
    }

    /** Units 0 .. of skill 0 with these distances at incident 0; the first so many are there. */
    private static SecondWaves crew(int arrived, int... distances) {
        SecondWaves x = onStepFive();
        for (int i = 0; i < distances.length; i++) {
            x.unit(0);
            x.go(i, 0, distances[i]);
            if (i < arrived) {
                x.arrive(i);
            }
        }
        return x;
    }

    private static String doing(SecondWaves x, int units) {
        StringBuilder all = new StringBuilder();
        for (int i = 0; i < units; i++) {
            all.append(x.unitAt(i, 0));
        }
        return all.toString();
    }

    private static void orderOfRecall() {
        for (int kept = 0; kept <= 6; kept++) {
            SecondWaves x = crew(3, 50, 50, 10, 3, 4, 3);
            x.row(0, 0, kept);
            check.same("recalled, " + kept + " kept", x.calm(0, 0), 6 - kept);
            check.same("who is left of " + kept, doing(x, 6), left(kept));
            check.same("counted", x.count(2), 6 - kept);
        }
        SecondWaves x = crew(0, 0, 99999, 99999);
        x.row(0, 0, 2);
        x.calm(0, 0);
        check.same("of the same the greater number", doing(x, 3), "110");
        check.same("free", Check.unitSeen(x, 2), "0 -1 -1 ");
        check.same("kept", Check.unitSeen(x, 1), "1 0 99999 ");
        x.go(2, 0, 8);
        check.same("it may go again", Check.unitSeen(x, 2), "1 0 8 ");
    }

    /** Under way go 4 (4), 5 (3), 3 (3); then of those there 1 (50), 0 (50), 2 (10). */
    private static String left(int kept) {
        int[] goes = {4, 5, 3, 1, 0, 2};
        char[] left = "222111".toCharArray();
        for (int i = 0; i < 6 - kept; i++) {
            left[goes[i]] = '0';
        }
        return new String(left);
    }

    private static void eachSkillByItself() {
        SecondWaves x = onStepFive();
        int other = x.begin();
        for (int i = 0; i < 40; i++) {
            x.unit(i % 8);
            if (i < 32) {
                x.go(i, i < 24 ? 0 : other, i);
            }
        }
        for (int skill = 0; skill < 8; skill++) {
            x.row(2, skill, skill);
        }
        check.same("three of each: 3 + 2 + 1 are too much", x.calm(0, 2), 6);
        check.same("who is left", doing(x, 40), "0111111100111111000111111111111100000000");
        check.same("counted", x.count(2), 6);
        check.same("too much of nothing", x.needed(0, 0), 0);
        check.same("still needed", x.needed(0, 7), 4);
        check.same("recalled from step 1", x.calm(0, 1), 18);
        check.same("counted on", x.count(2), 24);
        check.same("the other incident's stay", doing(x, 40), "0000000000000000000000001111111100000000");
    }

    private static void noRecallWithoutCalm() {
        SecondWaves x = crew(1, 5, 6, 7);
        x.row(5, 0, 2);
        check.same("a new row recalls nobody", doing(x, 3), "211");
        check.same("too much", x.needed(0, 0), -1);
        x.trigger(3, 6, 6, 0);
        x.ask(0, 6);
        check.same("a step up recalls nobody", doing(x, 3), "211");
        check.same("too much", x.needed(0, 0), -3);
        check.same("none recalled", x.count(2), 0);
    }

    private static void rowsNeedNotGrow() {
        SecondWaves x = crew(0, 5, 6);
        x.row(1, 0, 9);
        check.same("a lower step may want more", x.calm(0, 1), 0);
        check.same("needed", x.needed(0, 0), 7);
        check.same("all kept", doing(x, 2), "11");
    }

    private static SecondWaves refusing() {
        SecondWaves x = onStepFive();
        x.unit(0);
        x.go(0, 0, 9);
        return x;
    }

    private static SecondWaves onStepZero() {
        SecondWaves x = new SecondWaves();
        x.begin();
        x.unit(0);
        x.go(0, 0, 9);
        return x;
    }

    /** Forty units of one skill at one incident: just those above the row's count go back. */
    private static void fullRoom() {
        for (int kept : new int[] {0, 1, 29, 30}) {
            SecondWaves x = onStepFive();
            x.row(4, 7, kept);
            for (int i = 0; i < 40; i++) {
                x.unit(7);
                x.go(i, 0, 99999 - i);
            }
            check.same("of forty, " + kept + " kept", x.calm(0, 4), 40 - kept);
            check.same("none is too much now", x.needed(0, 7), 0);
            for (int i = 0; i < 40; i++) {
                check.same("the nearest stay, " + i, x.unitAt(i, 0), i < 40 - kept ? 0 : 1);
            }
            check.same("counted", x.count(2), 40 - kept);
        }
    }

    /** Just enough, one too few and one too much. */
    private static void aroundTheCount() {
        for (int units = 1; units <= 3; units++) {
            SecondWaves x = onStepFive();
            x.row(0, 0, 2);
            for (int i = 0; i < units; i++) {
                x.unit(0);
                x.go(i, 0, i);
            }
            check.same("two of " + units + " stay", x.calm(0, 0), units == 3 ? 1 : 0);
            check.same("needed", x.needed(0, 0), units == 1 ? 1 : 0);
        }
    }

    private static void refusals() {
        check.refusedOutside("incident", Check.UNKNOWN, 0, 1, CalmTest::refusing, n -> x -> x.calm(n, 0));
        check.refusedOutside("step", Check.UNKNOWN, 0, 9, CalmTest::refusing, n -> x -> x.calm(0, n));
        check.refused("at 0 of none", Check.UNKNOWN, SecondWaves::new, x -> x.calm(0, 0));
        check.refused("closed", Check.STATE, CalmTest::refusing, x -> x.calm(1, 0));
        check.refusedOutside("step before closed", Check.UNKNOWN, 0, 9, CalmTest::refusing, n -> x -> x.calm(1, n));
        check.refused("on step 0", Check.STATE, CalmTest::onStepZero, x -> x.calm(0, 0));
        check.refused("the same step", Check.STATE, CalmTest::refusing, x -> x.calm(0, 5));
        check.refused("a step above", Check.STATE, CalmTest::refusing, x -> x.calm(0, 6));
        check.refused("a step above the top", Check.STATE, CalmTest::refusing, x -> x.calm(0, 9));
    }
}
