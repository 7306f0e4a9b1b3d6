/**
 * The boundary cases of promises 27 to 32, of PLEAS in the Terms VI and of the Terms VII: a method
 * for each sentence that names one, with the sentence above it.
 */
public final class PleaBoundsTest {
    private static final Checks c = new Checks("PleaBoundsTest");
    private static final int MIN = Integer.MIN_VALUE;
    private static final int MAX = Integer.MAX_VALUE;

    public static void main(String[] args) {
        worths();
        sixtyPleas();
        heardOnesCount();
        pleaTroublesInOrder();
        howMany();
        fewerThanMany();
        nineOfSixty();
        ofNone();
        refusedChangesNothing();
        dayHeard();
        waits();
        heardOfNone();
        turns();
        turnsOfNone();
        mostWorthFirst();
        oneMoreForEachDay();
        likeOnes();
        likeOnesOfDays();
        turnsAcrossAllDays();
        counts();
        countsOfNone();
        countFeasts();
        countPleas();
        countToday();
        countPlace();
        countBytes();
        troubleAtFirst();
        troubleOfEach();
        troubleNoMore();
        troubleStays();
        c.end();
    }

    private static CourtProgress withPlace() {
        CourtProgress x = new CourtProgress();
        x.place(0, 0, 0);
        return x;
    }

    private static CourtProgress withPleas(int... worths) {
        CourtProgress x = withPlace();
        for (int worth : worths) {
            x.plea(worth);
        }
        return x;
    }

    private static void stepOn(CourtProgress x, int days) {
        for (int day = 0; day < days; day++) {
            x.step(0);
        }
    }

    private static void turnsDue(CourtProgress x, String what, int... pleas) {
        c.due("P30 next(-1) " + what, x.next(-1), -1);
        for (int i = 0; i < pleas.length; i++) {
            c.due("P30 next(" + i + ") " + what, x.next(i), pleas[i]);
        }
        c.due("P30 next(" + pleas.length + ") " + what, x.next(pleas.length), -1);
        c.due("P31 PLEAS that wait " + what, x.count(4), pleas.length);
    }

    // "a WORTH (0 .. 99)"; "NONE: 2"
    private static void worths() {
        int[] taken = {0, 1, 98, 99};
        for (int worth : taken) {
            CourtProgress x = new CourtProgress();
            c.due(x, "P27 plea(" + worth + ")", x.plea(worth), 0, 0);
            turnsDue(x, "after plea(" + worth + ")", 0);
        }
        int[] refused = {MIN, -2, -1, 100, 101, MAX};
        for (int worth : refused) {
            CourtProgress x = new CourtProgress();
            c.due(x, "P27 plea(" + worth + ")", x.plea(worth), -1, 2);
            turnsDue(x, "after plea(" + worth + ")");
            c.due("P29 heard(0) after plea(" + worth + ")", x.heard(0), -1);
            c.due(x, "P27 a plea after it", x.plea(5), 0, 0);
        }
    }

    // "PLEAS 60"; "its number. NONE: ..; 3"
    private static void sixtyPleas() {
        CourtProgress x = new CourtProgress();
        for (int p = 0; p < 60; p++) {
            c.due(x, "P27 plea " + p, x.plea(50), p, 0);
        }
        c.due(x, "P27 a 61st PLEA", x.plea(99), -1, 3);
        c.due(x, "P27 and again", x.plea(0), -1, 3);
        c.due("P31 PLEAS that wait", x.count(4), 60);
        c.due("P29 heard(59)", x.heard(59), -2);
        c.due("P29 heard(60)", x.heard(60), -1);
        c.due("P30 next(59)", x.next(59), 59);
        c.due("P30 next(60)", x.next(60), -1);
    }

    /** Those that were heard are PLEAS still: heard() tells of them. */
    private static void heardOnesCount() {
        CourtProgress x = new CourtProgress();
        for (int p = 0; p < 60; p++) {
            x.plea(50);
            x.hear(1);
        }
        c.due("P31 PLEAS that wait", x.count(4), 0);
        c.due(x, "P27 a 61st PLEA when all were heard", x.plea(50), -1, 3);
        c.due("P29 heard(0)", x.heard(0), 0);
        c.due("P29 heard(59)", x.heard(59), 0);
    }

    // "NONE: 2; 3."
    private static void pleaTroublesInOrder() {
        CourtProgress x = new CourtProgress();
        for (int p = 0; p < 60; p++) {
            x.plea(0);
        }
        c.due(x, "P27 a 61st of WORTH 100", x.plea(100), -1, 2);
        c.due(x, "P27 a 61st of WORTH -1", x.plea(-1), -1, 2);
        c.due(x, "P27 a 61st", x.plea(0), -1, 3);
    }

    // "So many (1 .. 9)"; "NONE (2)"
    private static void howMany() {
        int[] refused = {MIN, -9, -1, 0, 10, 11, 60, MAX};
        for (int many : refused) {
            CourtProgress x = withPleas(5, 5, 5);
            c.due(x, "P28 hear(" + many + ")", x.hear(many), -1, 2);
            turnsDue(x, "after hear(" + many + ")", 0, 1, 2);
        }
        for (int many = 1; many <= 9; many++) {
            CourtProgress x = withPleas(5, 5, 5, 5, 5, 5, 5, 5, 5, 5);
            c.due(x, "P28 hear(" + many + ")", x.hear(many), many, 0);
            for (int p = 0; p < 10; p++) {
                c.due("P29 heard(" + p + ") after hear(" + many + ")", x.heard(p), p < many ? 0 : -2);
            }
            c.due("P31 PLEAS that wait after hear(" + many + ")", x.count(4), 10 - many);
        }
    }

    // "of those that wait .. how many were"
    private static void fewerThanMany() {
        for (int waiting = 0; waiting <= 9; waiting++) {
            for (int many = 1; many <= 9; many++) {
                CourtProgress x = new CourtProgress();
                for (int p = 0; p < waiting; p++) {
                    x.plea(p);
                }
                String call = "hear(" + many + ") of " + waiting;
                int heard = Math.min(waiting, many);
                c.due(x, "P28 " + call, x.hear(many), heard, 0);
                c.due("P31 PLEAS that wait after " + call, x.count(4), waiting - heard);
            }
        }
    }

    private static void nineOfSixty() {
        CourtProgress x = new CourtProgress();
        for (int p = 0; p < 60; p++) {
            x.plea(p % 10);
        }
        int[] heard = {9, 9, 9, 9, 9, 9, 6, 0};
        for (int many : heard) {
            c.due(x, "P28 hear(9)", x.hear(9), many, 0);
        }
        turnsDue(x, "when all were heard");
    }

    private static void ofNone() {
        CourtProgress x = new CourtProgress();
        for (int many = 1; many <= 9; many++) {
            c.due(x, "P28 hear(" + many + ") of none", x.hear(many), 0, 0);
        }
        c.due(x, "P28 hear(0) of none", x.hear(0), -1, 2);
        c.due(x, "P28 hear(10) of none", x.hear(10), -1, 2);
    }

    private static void refusedChangesNothing() {
        c.changesNothing("P27 a plea refused by 2", PleaBoundsTest::some, x -> c.due(x, "P27 plea(100)", x.plea(100), -1, 2));
        c.changesNothing("P28 a hear refused by 2", PleaBoundsTest::some, x -> c.due(x, "P28 hear(10)", x.hear(10), -1, 2));
        c.changesNothing("P27 a plea refused by 3", PleaBoundsTest::all, x -> c.due(x, "P27 plea(1)", x.plea(1), -1, 3));
    }

    private static CourtProgress some() {
        CourtProgress x = withPleas(5, 7, 5);
        x.step(0);
        x.hear(1);
        x.plea(6);
        return x;
    }

    private static CourtProgress all() {
        CourtProgress x = withPlace();
        for (int p = 0; p < 60; p++) {
            x.plea(p);
        }
        x.hear(9);
        return x;
    }

    // "The DAY on which a PLEA was HEARD"
    private static void dayHeard() {
        CourtProgress x = withPleas(9, 8, 7);
        x.hear(1);
        c.due("P29 on day 0", x.heard(0), 0);
        stepOn(x, 1);
        x.hear(1);
        c.due("P29 on day 1", x.heard(1), 1);
        stepOn(x, 198);
        x.hear(1);
        c.due("P29 on day 199", x.heard(2), 199);
        c.due("P29 the first one still", x.heard(0), 0);
        c.due(x, "P27 a plea on day 199", x.plea(1), 3, 0);
        x.hear(9);
        c.due("P29 of its own day", x.heard(3), 199);
    }

    // "-2 if it waits"
    private static void waits() {
        CourtProgress x = withPleas(0, 99);
        c.due("P29 heard(0)", x.heard(0), -2);
        c.due("P29 heard(1)", x.heard(1), -2);
        x.hear(1);
        c.due("P29 heard(0) that waits still", x.heard(0), -2);
        c.due("P29 heard(1)", x.heard(1), 0);
    }

    // "NONE."
    private static void heardOfNone() {
        CourtProgress x = withPleas(5, 5);
        int[] none = {MIN, -3, -2, -1, 2, 3, 59, 60, MAX};
        for (int p : none) {
            c.due("P29 heard(" + p + ")", x.heard(p), -1);
        }
        x.hear(9);
        for (int p : none) {
            c.due("P29 heard(" + p + ") when all were heard", x.heard(p), -1);
        }
    }

    // "The i-th (from 0 on) that would be HEARD now"
    private static void turns() {
        CourtProgress x = withPleas(3, 9, 5);
        turnsDue(x, "of three", 1, 2, 0);
        x.hear(1);
        turnsDue(x, "of two", 2, 0);
        x.plea(4);
        turnsDue(x, "with one more between", 2, 3, 0);
        x.plea(99);
        turnsDue(x, "with one more before them", 4, 2, 3, 0);
        x.plea(0);
        turnsDue(x, "with one more behind them", 4, 2, 3, 0, 5);
        x.hear(9);
        turnsDue(x, "of none");
    }

    // "NONE."
    private static void turnsOfNone() {
        CourtProgress x = withPleas(5, 5);
        int[] none = {MIN, -2, -1, 2, 3, 59, 60, MAX};
        for (int i : none) {
            c.due("P30 next(" + i + ")", x.next(i), -1);
        }
        CourtProgress y = new CourtProgress();
        c.due("P30 next(0) of none", y.next(0), -1);
    }

    // "those with the most WORTH .. first"
    private static void mostWorthFirst() {
        turnsDue(withPleas(0, 1, 98, 99), "the least first told", 3, 2, 1, 0);
        turnsDue(withPleas(99, 98, 1, 0), "the most first told", 0, 1, 2, 3);
        turnsDue(withPleas(50, 99, 0, 51, 49), "in any order", 1, 3, 0, 4, 2);
    }

    // "and one more for each DAY it waits"
    private static void oneMoreForEachDay() {
        CourtProgress less = withPleas(5);
        stepOn(less, 2);
        less.plea(8);
        turnsDue(less, "5 and two days, 8", 1, 0);
        CourtProgress more = withPleas(5);
        stepOn(more, 3);
        more.plea(7);
        turnsDue(more, "5 and three days, 7", 0, 1);
        CourtProgress both = withPleas(5);
        both.plea(6);
        stepOn(both, 9);
        turnsDue(both, "both wait as long", 1, 0);
        // It waits from its own DAY on, not from the first one.
        CourtProgress late = withPlace();
        stepOn(late, 10);
        late.plea(5);
        stepOn(late, 2);
        late.plea(8);
        turnsDue(late, "5 and two days of twelve, 8", 1, 0);
    }

    // "of like ones the elder"
    private static void likeOnes() {
        turnsDue(withPleas(5, 5, 5), "of one day", 0, 1, 2);
        turnsDue(withPleas(0, 0), "of no worth", 0, 1);
        turnsDue(withPleas(5, 6, 5, 6), "two and two", 1, 3, 0, 2);
        CourtProgress x = withPleas(5, 5, 5);
        x.hear(1);
        turnsDue(x, "when the eldest was heard", 1, 2);
        x.plea(5);
        turnsDue(x, "with a younger one", 1, 2, 3);
    }

    private static void likeOnesOfDays() {
        CourtProgress x = withPleas(5);
        stepOn(x, 3);
        x.plea(8);
        turnsDue(x, "5 and three days, 8", 0, 1);
        x.plea(8);
        stepOn(x, 1);
        x.plea(9);
        turnsDue(x, "and 9 a day later", 0, 1, 2, 3);
        c.due("P28 hear(3)", x.hear(3), 3);
        c.due("P29 the youngest waits", x.heard(3), -2);
    }

    private static void turnsAcrossAllDays() {
        CourtProgress x = withPleas(0);
        stepOn(x, 99);
        x.plea(99);
        x.plea(98);
        turnsDue(x, "0 and 99 days, 99, 98", 0, 1, 2);
        stepOn(x, 1);
        x.plea(99);
        turnsDue(x, "and 99 a day later", 0, 1, 2, 3);
        stepOn(x, 99);
        x.plea(99);
        x.plea(0);
        turnsDue(x, "on day 199", 0, 1, 2, 3, 4, 5);
        CourtProgress y = withPleas(0);
        stepOn(y, 98);
        y.plea(99);
        turnsDue(y, "0 and 98 days, 99", 1, 0);
    }

    // "0 HOUSEHOLDS, 1 PLACES, 2 ORDINANCES"
    private static void counts() {
        CourtProgress x = new CourtProgress();
        for (int h = 1; h <= 9; h++) {
            x.household(1, 1, 1);
            c.due("P31 HOUSEHOLDS", x.count(0), Math.min(h, 8));
        }
        for (int p = 1; p <= 10; p++) {
            x.place(0, 0, 0);
            c.due("P31 PLACES", x.count(1), Math.min(p, 9));
        }
        for (int o = 1; o <= 11; o++) {
            Texts.ordain(x, 5, "eats 1");
            c.due("P31 ORDINANCES", x.count(2), Math.min(o, 10));
        }
        Texts.ordain(x, 5, "eats");
        c.due("P31 ORDINANCES after a FAULT", x.count(2), 10);
        x.household(0, 1, 1);
        c.due("P31 HOUSEHOLDS after a wrong one", x.count(0), 8);
    }

    // "NONE for others"
    private static void countsOfNone() {
        CourtProgress x = withPleas(5);
        int[] none = {MIN, -2, -1, 8, 9, 10, MAX};
        for (int what : none) {
            c.due("P31 count(" + what + ")", x.count(what), -1);
        }
        c.due("P31 count(7)", x.count(7), 0);
        c.due("P31 count(0)", x.count(0), 0);
    }

    // "3 FEASTS"
    private static void countFeasts() {
        CourtProgress x = withPlace();
        x.feast(0, 0);
        x.feast(5, 0);
        c.due("P31 FEASTS", x.count(3), 2);
        x.feast(5, 0);
        c.due("P31 in place of that DAY's", x.count(3), 2);
        stepOn(x, 3);
        c.due("P31 one that is past is one still", x.count(3), 2);
        x.feast(0, -1);
        c.due("P31 no more", x.count(3), 1);
        x.feast(0, -1);
        c.due("P31 no more twice", x.count(3), 1);
        x.feast(200, 0);
        x.feast(6, 1);
        c.due("P31 refused ones are none", x.count(3), 1);
    }

    // "4 PLEAS that wait"
    private static void countPleas() {
        CourtProgress x = new CourtProgress();
        c.due("P31 none at first", x.count(4), 0);
        x.plea(1);
        x.plea(2);
        x.plea(100);
        c.due("P31 two", x.count(4), 2);
        x.hear(1);
        c.due("P31 one was heard", x.count(4), 1);
        x.hear(9);
        c.due("P31 both were", x.count(4), 0);
        x.plea(3);
        c.due("P31 one more", x.count(4), 1);
    }

    // "5 TODAY"
    private static void countToday() {
        CourtProgress x = new CourtProgress();
        x.step(0);
        c.due("P31 TODAY without a PLACE", x.count(5), 0);
        x.place(0, 0, 0);
        stepOn(x, 198);
        c.due("P31 TODAY", x.count(5), 198);
        stepOn(x, 1);
        c.due("P31 TODAY", x.count(5), 199);
        stepOn(x, 1);
        c.due("P31 TODAY is no more than 199", x.count(5), 199);
    }

    // "6 the PLACE where the court is (NONE)"
    private static void countPlace() {
        CourtProgress x = new CourtProgress();
        c.due("P31 no PLACE", x.count(6), -1);
        x.place(-1, 0, 0);
        c.due("P31 no PLACE after a wrong one", x.count(6), -1);
        x.place(0, 0, 0);
        c.due("P31 the first PLACE", x.count(6), 0);
        x.place(0, 0, 0);
        x.way(0, 1, 1);
        x.step(1);
        c.due("P31 the second PLACE", x.count(6), 1);
        x.route(5);
        x.lodge(0);
        c.due("P31 neither a route nor a lodging goes there", x.count(6), 1);
    }

    // "7 bytes of THE TAPE"
    private static void countBytes() {
        CourtProgress x = new CourtProgress();
        c.due("P31 none at first", x.count(7), 0);
        for (int fed = 1; fed <= 21; fed++) {
            x.feed(0, 0, 0, 0, 0);
            c.due("P31 bytes", x.count(7), 20 * Math.min(fed, 20));
        }
        x.ordinance(0, 401);
        c.due("P31 they stay", x.count(7), 400);
        x.ordinance(0, 1);
        c.due("P31 it is empty", x.count(7), 0);
    }

    // "TROUBLE of the latest call that may be refused": none was made
    private static void troubleAtFirst() {
        CourtProgress x = new CourtProgress();
        c.due("P32 trouble() of a new object", x.trouble(), 0);
        x.count(9);
        x.need(-1);
        c.due("P32 trouble() after calls that can't be refused", x.trouble(), 0);
        c.due("P32 each object has its own", new CourtProgress().trouble(), 0);
    }

    // "0 it wasn't; 1 there is none such; 2 a number; 3 no room; 4 a FAULT; 5 no WAY, or too long; 6 no ROUTE, no LODGING"
    private static void troubleOfEach() {
        CourtProgress x = new CourtProgress();
        c.due(x, "P32 1", x.bar(0, 1, true), 1);
        c.due(x, "P32 6 of lasts()", x.lasts(), -1, 6);
        c.due(x, "P32 6 of route()", x.route(0), -1, 6);
        x.place(0, 0, 0);
        x.place(0, 0, 0);
        c.due(x, "P32 2", x.way(0, 1, 49), 2);
        c.due(x, "P32 5 without a way", x.step(1), -1, 5);
        x.way(0, 1, 17);
        c.due(x, "P32 5 by one too long", x.step(1), -1, 5);
        c.due(x, "P32 4", x.ordinance(0, 0), -1, 4);
        x.household(1, 1, 1);
        c.due(x, "P32 6 of lodge()", x.lodge(0), -1, 6);
        for (int h = 1; h < 8; h++) {
            x.household(1, 1, 1);
        }
        c.due(x, "P32 3", x.household(1, 1, 1), -1, 3);
        c.due(x, "P32 0", x.why(0), 1, 0);
    }

    /** Each call that may be refused leaves 0 when it was not. */
    private static void troubleNoMore() {
        CourtProgress x = new CourtProgress();
        noMore(x, "household", x.household(1, 1, 0));
        noMore(x, "household", x.household(1, 1, 0));
        noMore(x, "bar", x.bar(0, 1, true));
        noMore(x, "bar", x.bar(0, 1, false));
        noMore(x, "place", x.place(0, 0, 0));
        noMore(x, "place", x.place(0, 0, 0));
        noMore(x, "room", x.room(0, 1, 0, 0));
        noMore(x, "room", x.room(0, 1, 0, 0));
        noMore(x, "way", x.way(0, 1, 1));
        noMore(x, "mud", x.mud(0, 0, 0));
        noMore(x, "feast", x.feast(5, 0));
        noMore(x, "feast", x.feast(5, -1));
        noMore(x, "bring", x.bring(0, 0, 0));
        Texts.feed(x, "eats 0");
        noMore(x, "ordinance", x.ordinance(0, 6));
        noMore(x, "lodge", x.lodge(0));
        noMore(x, "why", x.why(0));
        noMore(x, "why", x.why(1));
        noMore(x, "route", x.route(0));
        noMore(x, "lasts", x.lasts());
        noMore(x, "step", x.step(1));
        noMore(x, "plea", x.plea(0));
        noMore(x, "hear", x.hear(1));
        noMore(x, "hear", x.hear(1));
    }

    private static void noMore(CourtProgress x, String call, int answer) {
        c.due("P32 " + call + " was not refused", answer >= 0, true);
        c.due("P32 trouble() after " + call, x.trouble(), 0);
        x.hear(10);
        c.due("P32 trouble() after a wrong hear", x.trouble(), 2);
    }

    private static void noMore(CourtProgress x, String call, boolean answer) {
        noMore(x, call, answer ? 1 : -1);
    }

    /** A call that can't be refused leaves the TROUBLE as it was, whatever it answers. */
    private static void troubleStays() {
        int[] arguments = {MIN, -1, 0, 1, 200, MAX};
        for (int trouble = 0; trouble <= 6; trouble++) {
            CourtProgress x = withPleas(5);
            x.household(1, 1, 0);
            troubled(x, trouble);
            for (int a : arguments) {
                x.feed(a, a, a, a, a);
                x.fault();
                x.where();
                x.force(a);
                x.eats(a, 0, true);
                x.eats(0, a, false);
                x.need(a);
                x.lodged(a);
                x.at(a);
                x.about(a, 0);
                x.about(0, a);
                x.was(a);
                x.lacked(a);
                x.heard(a);
                x.next(a);
                x.count(a);
                c.due("P32 trouble() stays", x.trouble(), trouble);
            }
        }
    }

    private static void troubled(CourtProgress x, int trouble) {
        switch (trouble) {
            case 0: x.hear(1); break;
            case 1: x.step(7); break;
            case 2: x.plea(100); break;
            case 3: full(x); break;
            case 4: x.ordinance(0, 0); break;
            case 5: x.place(0, 0, 0); x.step(1); break;
            default: x.lodge(0); break;
        }
        c.due("P32 trouble()", x.trouble(), trouble);
    }

    private static void full(CourtProgress x) {
        for (int r = 0; r < 11; r++) {
            x.room(0, 1, 0, 0);
        }
    }
}
