/** The sentences of the document's 'Terms' that name an edge, one test for each, in the document's order. */
public final class TermsTest {
    private static final Check check = new Check();

    public static void main(String[] args) {
        timeIsZeroAtFirstAndEndsAt999999();
        timeNeverGoesBack();
        skillsAreEight();
        theTopIsZeroAtFirst();
        theTopIsTheGreatestStepThereIs();
        everyRowIsZeroAtFirst();
        aRowsCountGoesToThirty();
        rowsNeedNotGrow();
        aTriggerActsAgainOnlyWhenTheSpanHasPassed();
        theFirstTimeWaitsForNoSpan();
        theLongestSpan();
        wordsAreAHundred();
        hurtIsReachedFromBelow();
        silenceAtJustThatSecond();
        silenceOnceUntilTheNextRow();
        noRowBeforeBegin();
        theLongestSilence();
        silencesBehindTheLastSecond();
        asksAreTen();
        anIncidentBeginsOnStepZeroWithARow();
        whatHappensHappensAtThePresentSecond();
        aTriggersStepIsTakenOnlyWhenAbove();
        severalActByNumbers();
        aSpanCountsForEachIncidentByItself();
        calmWhateverActed();
        distancesAndWhatBecomesOfThem();
        neededAndTooMuch();
        recallOrder();
        recallOnlyByCalm();
        roomsAreFullJustThen();
        fiveHundredAndTwelveCalls();
        check.end();
    }

    /** Top 9, ask 0 .. 9 leads to step 0 .. 9 without a span, one incident. */
    private static SecondWaves stairs() {
        SecondWaves x = new SecondWaves();
        x.top(9);
        for (int step = 0; step < 10; step++) {
            x.trigger(3, step, step, 0);
        }
        x.begin();
        return x;
    }

    private static SecondWaves open(int incidents) {
        SecondWaves x = new SecondWaves();
        x.top(9);
        for (int i = 0; i < incidents; i++) {
            x.begin();
        }
        return x;
    }

    /** Time goes on by so many seconds: how many triggers acted. */
    private static int pass(SecondWaves x, int seconds) {
        int acting = 0;
        for (int left = seconds; left > 0; left -= 5000) {
            acting += x.tick(Math.min(left, 5000));
        }
        return acting;
    }

    private static void timeIsZeroAtFirstAndEndsAt999999() {
        SecondWaves x = open(1);
        check.same("the first second", x.count(0), 0);
        check.same("a row in the first second", x.incident(0, 3), 0);
        pass(x, 999999);
        check.same("the last second", x.count(0), 999999);
        x.tell(0);
        check.same("a row in the last second", x.incident(0, 3), 999999);
        check.throwing("a second more", Check.RANGE, () -> x.tick(1));
        check.throwing("many seconds more", Check.RANGE, () -> x.tick(5000));
        check.same("still the last second", x.count(0), 999999);
    }

    private static void timeNeverGoesBack() {
        SecondWaves x = open(1);
        x.tick(5000);
        check.throwing("-1", Check.RANGE, () -> x.tick(-1));
        check.throwing("-5,000", Check.RANGE, () -> x.tick(-5000));
        check.throwing("0", Check.RANGE, () -> x.tick(0));
        check.throwing("the least int", Check.RANGE, () -> x.tick(Integer.MIN_VALUE));
        check.same("the second", x.count(0), 5000);
    }

    private static void skillsAreEight() {
        SecondWaves x = open(1);
        for (int skill = 0; skill < 8; skill++) {
            x.row(0, skill, skill + 1);
            check.same("unit", x.unit(skill), skill);
        }
        x.go(0, 0, 1);
        x.go(7, 0, 1);
        for (int skill = 0; skill < 8; skill++) {
            int gone = skill == 0 || skill == 7 ? 1 : 0;
            check.same("skill " + skill, x.needed(0, skill), skill + 1 - gone);
        }
    }

    private static void theTopIsZeroAtFirst() {
        SecondWaves x = new SecondWaves();
        x.trigger(3, 0, 1, 0);
        x.trigger(3, 0, 9, 0);
        x.begin();
        check.same("both act", x.ask(0, 0), 2);
        check.same("no step above 0 yet", x.incident(0, 0), 0);
        check.same("both without going up", x.count(3), 2);
        check.same("never up", x.incident(0, 5), 0);
    }

    private static void theTopIsTheGreatestStepThereIs() {
        for (int top = 0; top < 10; top++) {
            for (int step = 0; step < 10; step++) {
                SecondWaves x = stairs();
                x.top(top);
                x.ask(0, step);
                check.same("step " + step + " under top " + top, x.incident(0, 0), Math.min(step, top));
                x.ask(0, 9);
                check.same("step 9 under top " + top, x.incident(0, 0), top);
            }
        }
    }

    private static void everyRowIsZeroAtFirst() {
        SecondWaves x = stairs();
        for (int step = 0; step < 10; step++) {
            x.ask(0, step);
            for (int skill = 0; skill < 8; skill++) {
                check.same("row " + step + " skill " + skill, x.needed(0, skill), 0);
            }
        }
    }

    private static void aRowsCountGoesToThirty() {
        for (int count : new int[] {0, 1, 29, 30}) {
            SecondWaves x = stairs();
            x.row(0, 0, count);
            x.row(9, 7, count);
            check.same("the first", x.needed(0, 0), count);
            check.same("its neighbour", x.needed(0, 1), 0);
            x.ask(0, 9);
            check.same("the last", x.needed(0, 7), count);
            check.same("its neighbour", x.needed(0, 6), 0);
        }
    }

    private static void rowsNeedNotGrow() {
        SecondWaves x = stairs();
        for (int step = 0; step < 10; step++) {
            x.row(step, 3, 30 - step);
        }
        for (int step = 0; step < 10; step++) {
            x.ask(0, step);
            check.same("a greater step wants less", x.needed(0, 3), 30 - step);
        }
        x.unit(3);
        x.go(0, 0, 5);
        check.same("a step down that wants more recalls nobody", x.calm(0, 8), 0);
        check.same("needed", x.needed(0, 3), 21);
    }

    private static void aTriggerActsAgainOnlyWhenTheSpanHasPassed() {
        int[][] kinds = {{0, 7}, {1, 7}, {3, 7}};
        for (int[] kind : kinds) {
            for (int span : new int[] {1, 2, 60}) {
                SecondWaves x = open(1);
                x.trigger(kind[0], kind[1], 1, span);
                check.same("the first time", happen(x, kind[0]), 1);
                check.same("in the same second", happen(x, kind[0]), 0);
                if (span > 1) {
                    x.tick(span - 1);
                    check.same("a second too soon, span " + span, happen(x, kind[0]), 0);
                }
                x.tick(1);
                check.same("just then, span " + span, happen(x, kind[0]), 1);
                x.tick(span + 1);
                check.same("later than that", happen(x, kind[0]), 1);
                check.same("acted", x.acted(0), 3);
            }
            SecondWaves x = open(1);
            x.trigger(kind[0], kind[1], 1, 0);
            for (int i = 1; i <= 3; i++) {
                check.same("span 0, the same second", happen(x, kind[0]), 1);
            }
        }
    }

    /** Word 7, 7 hurt told after 0, or ask 7. */
    private static int happen(SecondWaves x, int kind) {
        if (kind == 0) {
            return x.word(0, 7);
        }
        if (kind == 3) {
            return x.ask(0, 7);
        }
        return x.hurt(0, 0) + x.hurt(0, 7);
    }

    private static void theFirstTimeWaitsForNoSpan() {
        SecondWaves x = open(1);
        x.trigger(0, 1, 1, 100000);
        x.trigger(1, 1, 2, 100000);
        x.trigger(2, 1, 3, 100000);
        x.trigger(3, 1, 4, 100000);
        check.same("a word at 0", x.word(0, 1), 1);
        check.same("hurt at 0", x.hurt(0, 1), 1);
        check.same("an ask at 0", x.ask(0, 1), 1);
        check.same("silence at 1", x.tick(1), 1);
        check.same("the word again", x.word(0, 1), 0);
    }

    private static void theLongestSpan() {
        SecondWaves x = open(1);
        x.trigger(3, 4, 1, 100000);
        check.same("at 0", x.ask(0, 4), 1);
        pass(x, 99999);
        check.same("at 99,999", x.ask(0, 4), 0);
        x.tick(1);
        check.same("at 100,000", x.ask(0, 4), 1);
        pass(x, 799999);
        check.same("at 899,999", x.ask(0, 4), 1);
        pass(x, 99999);
        check.same("at 999,998", x.ask(0, 4), 0);
        x.tick(1);
        check.same("at 999,999", x.ask(0, 4), 1);
    }

    private static void wordsAreAHundred() {
        SecondWaves x = open(1);
        x.trigger(0, 0, 1, 0);
        x.trigger(0, 99, 2, 0);
        int acting = 0;
        for (int w = 0; w < 100; w++) {
            acting += x.word(0, w);
        }
        check.same("the first and the last", acting, 2);
        check.same("0", x.acted(0), 1);
        check.same("99", x.acted(1), 1);
        check.same("the other 98", x.count(1), 98);
    }

    private static void hurtIsReachedFromBelow() {
        int[][] fromToDue = {
            {0, 499, 0}, {0, 500, 1}, {0, 501, 1}, {499, 500, 1}, {499, 10000, 1}, {0, 0, 0}, {499, 499, 0},
            {500, 500, 0}, {500, 501, 0}, {501, 500, 0}, {501, 499, 0}, {500, 10000, 0}, {10000, 500, 0}, {500, 0, 0},
        };
        for (int[] row : fromToDue) {
            SecondWaves x = open(1);
            x.hurt(0, row[0]);
            x.trigger(1, 500, 1, 0);
            check.same("500 from " + row[0] + " to " + row[1], x.hurt(0, row[1]), row[2]);
            check.same("told", x.incident(0, 2), row[1]);
        }
        SecondWaves x = open(2);
        x.trigger(1, 1, 1, 0);
        x.trigger(1, 1000, 2, 0);
        check.same("none", x.hurt(0, 0), 0);
        check.same("the least", x.hurt(0, 1), 1);
        check.same("999", x.hurt(0, 999), 0);
        check.same("the greatest", x.hurt(0, 1000), 1);
        check.same("both, at another incident", x.hurt(1, 10000), 2);
        check.same("fewer", x.hurt(1, 0), 0);
        check.same("both anew", x.hurt(1, 1000), 2);
    }

    private static void silenceAtJustThatSecond() {
        for (int silence : new int[] {1, 2, 4999, 5000}) {
            SecondWaves early = open(1);
            early.trigger(2, silence, 1, 0);
            if (silence > 1) {
                check.same("a second less than " + silence, early.tick(silence - 1), 0);
            }
            check.same("just " + silence, early.tick(1), 1);
            check.same("a second more", early.tick(1), 0);
            SecondWaves whole = open(1);
            whole.trigger(2, silence, 1, 0);
            check.same("one tick of just " + silence, whole.tick(silence), 1);
        }
        SecondWaves late = open(1);
        late.tick(10);
        late.trigger(2, 9, 1, 0);
        late.trigger(2, 10, 1, 0);
        late.trigger(2, 11, 1, 0);
        check.same("of three made in the tenth second only the one of 11", late.tick(5000), 1);
        check.same("that one", late.acted(2), 1);
    }

    private static void silenceOnceUntilTheNextRow() {
        SecondWaves x = open(1);
        x.trigger(2, 5, 1, 0);
        check.same("once", x.tick(20), 1);
        check.same("not at 25, 30, ..", x.tick(20), 0);
        x.tell(0);
        x.tell(0);
        check.same("once more after a row", x.tick(20), 1);
        x.tick(1);
        x.tell(0);
        check.same("4 after a row", x.tick(4), 0);
        x.tell(0);
        check.same("the row came a second early", x.tick(4), 0);
        check.same("5 after it", x.tick(1), 1);
        x.tell(0);
        check.same("a row in the very second", x.tick(5), 1);
        SecondWaves y = open(1);
        y.trigger(2, 5, 1, 12);
        check.same("at 5", y.tick(5), 1);
        y.tell(0);
        check.same("at 10 the span runs, and its end at 17 brings nothing", y.tick(100), 0);
        y.tell(0);
        check.same("the next row does", y.tick(5), 1);
    }

    private static void noRowBeforeBegin() {
        SecondWaves x = open(0);
        x.trigger(2, 10, 3, 0);
        check.same("no incident, nobody silent", x.tick(30), 0);
        x.begin();
        check.same("9 after begin", x.tick(9), 0);
        check.same("10 after begin", x.tick(1), 1);
        x.begin();
        check.same("the second's own silence", x.tick(10), 1);
        check.same("acted at the second", x.incident(1, 4), 1);
        check.same("and not again at the first", x.incident(0, 4), 1);
    }

    private static void theLongestSilence() {
        SecondWaves x = open(1);
        x.trigger(2, 100000, 1, 100000);
        check.same("99,999", pass(x, 99999), 0);
        check.same("100,000", x.tick(1), 1);
        x.tell(0);
        check.same("silence and span end in the same second", pass(x, 99999), 0);
        check.same("200,000", x.tick(1), 1);
    }

    private static void silencesBehindTheLastSecond() {
        SecondWaves x = open(1);
        pass(x, 999989);
        x.tell(0);
        x.trigger(2, 10, 1, 0);
        x.trigger(2, 11, 2, 0);
        x.trigger(2, 100000, 3, 0);
        check.same("only the one that ends in the last second", x.tick(10), 1);
        check.same("that one", x.acted(0), 1);
        check.throwing("no second more", Check.RANGE, () -> x.tick(1));
        check.same("nobody acted in it", x.incident(0, 4), 1);
        check.same("step", x.incident(0, 0), 1);
        check.same("an incident of the last second", x.begin(), 1);
        check.same("its row", x.incident(1, 3), 999999);
    }

    private static void asksAreTen() {
        SecondWaves x = open(1);
        x.trigger(3, 0, 1, 0);
        x.trigger(3, 9, 2, 0);
        int acting = 0;
        for (int a = 0; a < 10; a++) {
            acting += x.ask(0, a);
        }
        check.same("the first and the last", acting, 2);
        check.same("0", x.acted(0), 1);
        check.same("9", x.acted(1), 1);
    }

    private static void anIncidentBeginsOnStepZeroWithARow() {
        SecondWaves x = stairs();
        x.ask(0, 9);
        x.hurt(0, 10000);
        x.tick(77);
        x.close(0);
        check.same("number", x.begin(), 1);
        check.same("step, open, hurt, row, acted, up, down", Check.incidentSeen(x, 1), "0 1 0 77 0 0 0 0 0 0 0 0 0 0 0 ");
    }

    private static void whatHappensHappensAtThePresentSecond() {
        SecondWaves x = open(1);
        x.trigger(0, 1, 1, 10);
        x.tick(5);
        x.word(0, 1);
        x.tick(9);
        check.same("9 after the word", x.word(0, 1), 0);
        x.tell(0);
        check.same("the row's second", x.incident(0, 3), 14);
        x.tick(1);
        check.same("10 after the word", x.word(0, 1), 1);
        SecondWaves y = open(1);
        y.trigger(2, 4, 1, 10);
        y.tick(100);
        y.tell(0);
        check.same("a silence acted in its own second, 4, not at the tick's end", y.tick(4), 1);
    }

    private static void aTriggersStepIsTakenOnlyWhenAbove() {
        for (int from = 0; from < 10; from++) {
            for (int to = 0; to < 10; to++) {
                SecondWaves x = stairs();
                x.ask(0, from);
                int before = x.count(3);
                check.same("acts all the same", x.ask(0, to), 1);
                check.same("from " + from + " to " + to, x.incident(0, 0), Math.max(from, to));
                check.same("acted there", x.incident(0, 4), 2);
                check.same("without going up", x.count(3) - before, to > from ? 0 : 1);
                check.same("up", x.incident(0, 5), (from > 0 ? 1 : 0) + (to > from ? 1 : 0));
                check.same("never down", x.incident(0, 6), 0);
            }
        }
        SecondWaves x = stairs();
        x.top(4);
        x.ask(0, 9);
        x.ask(0, 5);
        check.same("the top is not above itself", x.incident(0, 5), 1);
        check.same("without going up", x.count(3), 1);
    }

    private static void severalActByNumbers() {
        for (int kind = 0; kind < 4; kind++) {
            SecondWaves up = open(1);
            SecondWaves down = open(1);
            for (int i = 0; i < 5; i++) {
                up.trigger(kind, 7, i + 1, 0);
                down.trigger(kind, 7, 5 - i, 0);
            }
            check.same("all of kind " + kind, several(up, kind), 5);
            check.same("each of them lifts", up.incident(0, 5), 5);
            check.same("all of kind " + kind, several(down, kind), 5);
            check.same("the first alone lifts", down.incident(0, 5), 1);
            check.same("the others do not", down.count(3), 4);
        }
        SecondWaves hurt = open(1);
        hurt.trigger(1, 9, 1, 0);
        hurt.trigger(1, 3, 2, 0);
        hurt.hurt(0, 9);
        check.same("by numbers, not by how many hurt", hurt.incident(0, 5), 2);
        SecondWaves silent = open(1);
        silent.trigger(2, 9, 1, 0);
        silent.trigger(2, 3, 2, 0);
        silent.tick(9);
        check.same("by numbers only within one second", silent.incident(0, 5), 1);
    }

    private static int several(SecondWaves x, int kind) {
        switch (kind) {
            case 0:
                return x.word(0, 7);
            case 1:
                return x.hurt(0, 7);
            case 2:
                return x.tick(7);
            default:
                return x.ask(0, 7);
        }
    }

    private static void aSpanCountsForEachIncidentByItself() {
        SecondWaves x = open(12);
        x.trigger(0, 3, 1, 100);
        for (int i = 0; i < 12; i++) {
            check.same("at " + i, x.word(i, 3), 1);
            x.tick(1);
        }
        x.tick(88);
        for (int i = 0; i < 12; i++) {
            check.same("100 after its own act", x.word(i, 3), i == 0 ? 1 : 0);
        }
        x.tick(11);
        check.same("the last one's span", x.word(11, 3), 1);
        check.same("the first one's runs anew", x.word(0, 3), 0);
        check.same("acted at all incidents", x.acted(0), 14);
    }

    private static void calmWhateverActed() {
        for (int step = 0; step < 9; step++) {
            SecondWaves x = stairs();
            x.trigger(2, 5, 9, 0);
            x.tick(5);
            check.same("the silence acted in this second", x.incident(0, 0), 9);
            x.calm(0, step);
            check.same("calm from 9 to " + step, x.incident(0, 0), step);
            check.same("one step down by calm alone counts once", x.incident(0, 6), 1);
            check.same("nothing else acted", x.incident(0, 4), 1);
            x.ask(0, step + 1);
            check.same("up again in the same second", x.incident(0, 0), step + 1);
        }
    }

    private static void distancesAndWhatBecomesOfThem() {
        SecondWaves x = open(1);
        for (int distance : new int[] {0, 1, 99998, 99999}) {
            int unit = x.unit(0);
            check.same("free", Check.unitSeen(x, unit), "0 -1 -1 ");
            x.go(unit, 0, distance);
            check.same("under way", Check.unitSeen(x, unit), "1 0 " + distance + " ");
            x.arrive(unit);
            check.same("there, with the distance it came by", Check.unitSeen(x, unit), "2 0 " + distance + " ");
        }
        x.close(0);
        for (int unit = 0; unit < 4; unit++) {
            check.same("free again", Check.unitSeen(x, unit), "0 -1 -1 ");
        }
    }

    private static void neededAndTooMuch() {
        SecondWaves x = open(1);
        for (int unit = 0; unit < 40; unit++) {
            x.row(0, 5, 30);
            check.same("needed with " + unit, x.needed(0, 5), 30 - unit);
            x.row(0, 5, 0);
            check.same("too much of " + unit, x.needed(0, 5), -unit);
            x.unit(5);
            check.same("a free one does not count", x.needed(0, 5), -unit);
            x.go(unit, 0, unit);
            check.same("one under way does", x.needed(0, 5), -unit - 1);
            x.arrive(unit);
            check.same("one there, too", x.needed(0, 5), -unit - 1);
        }
        check.same("all forty are too much", x.needed(0, 5), -40);
        x.row(0, 5, 30);
        check.same("ten of forty", x.needed(0, 5), -10);
    }

    private static void recallOrder() {
        goesFirst("under way before there, though nearer", new int[] {99999, 0}, "21", 1);
        goesFirst("under way before there, by the lesser number", new int[] {0, 99999}, "12", 0);
        goesFirst("the farthest under way", new int[] {5, 7, 6}, "111", 1);
        goesFirst("the farthest there", new int[] {5, 7, 6}, "222", 1);
        goesFirst("the least and the greatest distance", new int[] {99999, 0}, "11", 0);
        goesFirst("of the same the greater number, under way", new int[] {4, 4, 4}, "111", 2);
        goesFirst("of the same the greater number, there", new int[] {4, 4, 4}, "222", 2);
        goesFirst("a farther one of a lesser number", new int[] {5, 4, 4}, "111", 0);
        goesFirst("both at distance 0", new int[] {0, 0}, "22", 1);
    }

    /** All but one are wanted of these units, 1 under way and 2 there: which goes back. */
    private static void goesFirst(String what, int[] distances, String doing, int due) {
        SecondWaves x = stairs();
        x.ask(0, 1);
        x.row(0, 6, distances.length - 1);
        for (int i = 0; i < distances.length; i++) {
            x.unit(6);
            x.go(i, 0, distances[i]);
            if (doing.charAt(i) == '2') {
                x.arrive(i);
            }
        }
        check.same(what + ", recalled", x.calm(0, 0), 1);
        for (int i = 0; i < distances.length; i++) {
            check.same(what + ", unit " + i, x.unitAt(i, 0), i == due ? 0 : doing.charAt(i) - '0');
        }
        check.same(what + ", free then", Check.unitSeen(x, due), "0 -1 -1 ");
    }

    private static void recallOnlyByCalm() {
        SecondWaves x = stairs();
        x.unit(0);
        x.go(0, 0, 3);
        x.row(0, 0, 0);
        x.ask(0, 1);
        x.top(1);
        x.tick(5000);
        check.same("too much, and nobody recalls it", Check.unitSeen(x, 0), "1 0 3 ");
        check.throwing("a refused calm", Check.STATE, () -> x.calm(0, 1));
        check.same("recalls nobody", Check.unitSeen(x, 0), "1 0 3 ");
        check.same("counted", x.count(2), 0);
        check.same("calm does", x.calm(0, 0), 1);
        check.same("counted", x.count(2), 1);
    }

    private static void roomsAreFullJustThen() {
        SecondWaves x = new SecondWaves();
        for (int i = 0; i < 20; i++) {
            check.same("trigger", x.trigger(0, 99, 9, 0), i);
        }
        for (int i = 0; i < 12; i++) {
            check.same("incident", x.begin(), i);
        }
        for (int i = 0; i < 40; i++) {
            check.same("unit", x.unit(7), i);
        }
        check.throwing("trigger 20", Check.ROOM, () -> x.trigger(0, 0, 0, 0));
        check.throwing("incident 12", Check.ROOM, x::begin);
        check.throwing("unit 40", Check.ROOM, () -> x.unit(0));
        x.go(39, 11, 99999);
        check.same("the last unit at the last incident", Check.unitSeen(x, 39), "1 11 99999 ");
        check.same("all triggers at the last incident", x.word(11, 99), 20);
        check.same("the last trigger", x.acted(19), 1);
        x.close(11);
        check.throwing("a closed incident makes no room", Check.ROOM, x::begin);
    }

    /** The last of 512 calls is answered as any other. */
    private static void fiveHundredAndTwelveCalls() {
        SecondWaves x = new SecondWaves();
        x.top(9);
        for (int i = 0; i < 20; i++) {
            x.trigger(0, 5, 9, 0);
        }
        x.begin();
        int calls = 22;
        for (; calls < 511; calls++) {
            check.same("call " + (calls + 1), x.word(0, 5), 20);
        }
        check.same("call 512", x.count(3), 20 * (511 - 22) - 1);
        SecondWaves y = new SecondWaves();
        y.begin();
        for (calls = 1; calls < 511; calls++) {
            y.tick(1959);
        }
        check.same("call 512, late", y.count(0), 1959 * 510);
        SecondWaves z = new SecondWaves();
        for (calls = 0; calls < 511; calls++) {
            check.throwing("refused", Check.UNKNOWN, () -> z.tell(0));
        }
        check.same("call 512, after nothing but refusals", z.begin(), 0);
    }
}
