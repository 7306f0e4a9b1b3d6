/** Promises 1 to 9, 22 to 26, 31 and 32: households, places, ways, days and steps. */
public final class StateTest {
    private static final Checks c = new Checks("StateTest");
    private static final int MIN = Integer.MIN_VALUE;
    private static final int MAX = Integer.MAX_VALUE;

    public static void main(String[] args) {
        newObject();
        households();
        bars();
        places();
        rooms();
        ways();
        muds();
        feasts();
        brings();
        lasting();
        steps();
        stepsRefused();
        facts();
        counts();
        troubles();
        c.end();
    }

    private static void newObject() {
        CourtProgress x = new CourtProgress();
        int[] counts = {0, 0, 0, 0, 0, 0, -1, 0};
        for (int what = 0; what < counts.length; what++) {
            c.due("count(" + what + ") of a new object", x.count(what), counts[what]);
        }
        c.due("trouble() of a new object", x.trouble(), 0);
        c.due("fault() of a new object", x.fault(), 0);
        c.due("where() of a new object", x.where(), -1);
        c.due("need(0) of a new object", x.need(0), 0);
        c.due("force(0) of a new object", x.force(0), -2);
        c.due("lodged(0) of a new object", x.lodged(0), -1);
        c.due("at(0) of a new object", x.at(0), -1);
        c.due("at(-1) of a new object", x.at(-1), -1);
        c.due("was(0) of a new object", x.was(0), -1);
        c.due("lacked(0) of a new object", x.lacked(0), -1);
        c.due("next(0) of a new object", x.next(0), -1);
        c.due("heard(0) of a new object", x.heard(0), -1);
    }

    private static void households() {
        CourtProgress x = new CourtProgress();
        int[][] wrong = {{0, 1, 0}, {10, 1, 0}, {1, 0, 0}, {1, 100, 0}, {1, 1, -1}, {1, 1, 100}, {MIN, 1, 0}, {1, MAX, 0}};
        for (int[] w : wrong) {
            c.due(x, "household with a wrong number", x.household(w[0], w[1], w[2]), -1, 2);
        }
        for (int h = 0; h < 8; h++) {
            c.due(x, "household", h % 2 == 0 ? x.household(1, 1, 0) : x.household(9, 99, 99), h, 0);
        }
        c.due(x, "a ninth household", x.household(5, 5, 5), -1, 3);
        c.due(x, "a ninth household with a wrong number", x.household(0, 5, 5), -1, 2);
        c.due("count(0)", x.count(0), 8);
    }

    private static void bars() {
        CourtProgress x = new CourtProgress();
        c.due(x, "bar of none", x.bar(0, 1, true), 1);
        x.household(1, 1, 0);
        x.household(1, 1, 0);
        x.place(0, 0, 0);
        x.room(0, 1, 2, 0);
        x.room(0, 1, 2, 0);
        c.due(x, "bar(0, 1, true)", x.bar(0, 1, true), 0);
        c.due("why barred", x.why(0), 3);
        c.due(x, "bar twice", x.bar(1, 0, true), 0);
        c.due(x, "bar no more", x.bar(1, 0, false), 0);
        c.due("why no more barred", x.why(0), 0);
        c.due(x, "bar no more twice", x.bar(0, 1, false), 0);
        c.due(x, "bar with itself", x.bar(1, 1, true), 1);
        c.due(x, "bar with itself no more", x.bar(1, 1, false), 1);
        c.due(x, "bar(0, 2)", x.bar(0, 2, true), 1);
        c.due(x, "bar(-1, 0)", x.bar(-1, 0, true), 1);
        c.due(x, "bar(MAX, MIN)", x.bar(MAX, MIN, false), 1);
        c.due("why still", x.why(0), 0);
    }

    private static void places() {
        CourtProgress x = new CourtProgress();
        int[][] wrong = {{-1, 0, 0}, {1000001, 0, 0}, {0, -1, 0}, {0, 1000001, 0}, {0, 0, -1}, {0, 0, 1000}, {MIN, 0, 0}, {0, MAX, 0}};
        for (int[] w : wrong) {
            c.due(x, "place with a wrong number", x.place(w[0], w[1], w[2]), -1, 2);
        }
        c.due("count(6) without a place", x.count(6), -1);
        for (int p = 0; p < 9; p++) {
            c.due(x, "place", p % 2 == 0 ? x.place(0, 0, 0) : x.place(1000000, 1000000, 999), p, 0);
            c.due("the court stays where it was first", x.count(6), 0);
        }
        c.due(x, "a tenth place", x.place(0, 0, 0), -1, 3);
        c.due(x, "a tenth place with a wrong number", x.place(0, 0, -1), -1, 2);
        c.due("count(1)", x.count(1), 9);
        c.due("about(1, 0)", x.about(1, 0), 1000000);
        c.due("about(1, 1)", x.about(1, 1), 1000000);
    }

    private static void rooms() {
        CourtProgress x = new CourtProgress();
        c.due(x, "room of no place", x.room(0, 1, 0, 0), -1, 1);
        x.place(0, 0, 0);
        int[][] wrong = {{0, 0, 0}, {10, 0, 0}, {1, -1, 0}, {1, 4, 0}, {1, 0, -1}, {1, 0, 100}, {MAX, 0, 0}};
        for (int[] w : wrong) {
            c.due(x, "room with a wrong number", x.room(0, w[0], w[1], w[2]), -1, 2);
        }
        for (int r = 0; r < 10; r++) {
            c.due(x, "room", r % 2 == 0 ? x.room(0, 1, 0, 0) : x.room(0, 9, 3, 99), r, 0);
        }
        c.due(x, "an eleventh room", x.room(0, 1, 0, 0), -1, 3);
        c.due(x, "an eleventh room with a wrong number", x.room(0, 0, 0, 0), -1, 2);
        c.due(x, "a wrong room of no place", x.room(1, 0, 0, 0), -1, 1);
        c.due(x, "a wrong room of no place", x.room(-1, 0, 0, 0), -1, 1);
        c.due("about(0, 3)", x.about(0, 3), 10);
        x.place(0, 0, 0);
        c.due(x, "rooms are counted by places", x.room(1, 1, 0, 0), 0, 0);
    }

    private static void ways() {
        CourtProgress x = new CourtProgress();
        x.place(0, 0, 0);
        x.place(0, 0, 0);
        c.due(x, "way(0, 1, 48)", x.way(0, 1, 48), 0);
        c.due(x, "a step by a long way", x.step(1), -1, 5);
        c.due(x, "way(1, 0, 16)", x.way(1, 0, 16), 0);
        c.due(x, "a step by a way", x.step(1), 0, 0);
        c.due(x, "way(0, 1, 0)", x.way(0, 1, 0), 0);
        c.due(x, "a step without a way", x.step(0), -1, 5);
        c.due(x, "way(0, 1, 0) again", x.way(0, 1, 0), 0);
        c.due(x, "way(0, 1, -1)", x.way(0, 1, -1), 2);
        c.due(x, "way(0, 1, 49)", x.way(0, 1, 49), 2);
        c.due(x, "way(0, 0, 1)", x.way(0, 0, 1), 1);
        c.due(x, "way(0, 2, 49)", x.way(0, 2, 49), 1);
        c.due(x, "way(-1, 0, 1)", x.way(-1, 0, 1), 1);
        c.due(x, "way(MAX, MIN, 1)", x.way(MAX, MIN, 1), 1);
    }

    private static void muds() {
        CourtProgress x = new CourtProgress();
        x.household(1, 1, 0);
        Texts.ordain(x, 0, "eats mud");
        c.due(x, "mud(3, 5, 4)", x.mud(3, 5, 4), 0);
        c.due(x, "mud(5, 5, 1)", x.mud(5, 5, 1), 0);
        int[] deep = {0, 0, 0, 4, 4, 1, 0};
        for (int day = 0; day < deep.length; day++) {
            c.due("mud of day " + day, x.need(day), deep[day]);
        }
        c.due(x, "mud(0, 199, 2)", x.mud(0, 199, 2), 0);
        c.due("mud of day 0", x.need(0), 2);
        c.due("mud of day 199", x.need(199), 2);
        int[][] wrong = {{-1, 0, 0}, {0, 200, 0}, {200, 200, 0}, {5, 4, 0}, {0, 0, -1}, {0, 0, 5}, {MIN, MAX, 1}};
        for (int[] w : wrong) {
            c.due(x, "mud with a wrong number", x.mud(w[0], w[1], w[2]), 2);
        }
        c.due("mud of day 0 still", x.need(0), 2);
        mudOnWays();
    }

    private static void mudOnWays() {
        // 13 hours: 13, 16 (downwards), 19 with mud 0, 1, 2.
        for (int deep = 0; deep <= 4; deep++) {
            CourtProgress x = new CourtProgress();
            x.place(0, 0, 0);
            x.place(0, 0, 0);
            x.way(0, 1, 13);
            x.feast(1, 1);
            x.mud(0, 0, deep);
            boolean goes = deep <= 1;
            c.due(x, "route in mud " + deep, x.route(1), goes ? 13 + 3 * deep : -1, goes ? 0 : 6);
            c.due(x, "step in mud " + deep, x.step(1), goes ? 0 : -1, goes ? 0 : 5);
        }
    }

    private static void feasts() {
        CourtProgress x = new CourtProgress();
        c.due(x, "a feast at no place", x.feast(0, 0), 1);
        c.due(x, "no feast any more where none was", x.feast(0, -1), 0);
        x.place(0, 0, 0);
        x.place(0, 0, 0);
        for (int f = 0; f < 8; f++) {
            c.due(x, "feast", x.feast(f == 7 ? 199 : f, f % 2), 0);
            c.due("count(3)", x.count(3), f + 1);
        }
        c.due(x, "a ninth feast", x.feast(100, 0), 3);
        c.due(x, "in place of a day's feast", x.feast(3, 0), 0);
        c.due("count(3)", x.count(3), 8);
        c.due(x, "a ninth feast on no day", x.feast(200, 0), 2);
        c.due(x, "no feast any more on no day", x.feast(-1, -1), 2);
        c.due(x, "a feast on no day at no place", x.feast(200, 2), 1);
        c.due(x, "a feast at -2", x.feast(0, -2), 1);
        c.due(x, "no feast any more of a day without", x.feast(100, -1), 0);
        c.due("count(3)", x.count(3), 8);
        c.due(x, "no feast any more", x.feast(3, -1), 0);
        c.due("count(3)", x.count(3), 7);
        c.due(x, "an eighth again", x.feast(100, 0), 0);
        x.household(1, 1, 0);
        Texts.ordain(x, 0, "eats feast");
        c.due("a day without a feast", x.need(3), 0);
        c.due("a day with a feast at place 0", x.need(100), 1);
        c.due("a day with a feast at place 1", x.need(1), 1);
    }

    private static void brings() {
        CourtProgress x = new CourtProgress();
        c.due(x, "bring to no place", x.bring(0, -1, 0), 1);
        x.place(10, 20, 0);
        c.due(x, "bring(0, 5, -20)", x.bring(0, 5, -20), 0);
        c.due("store", x.about(0, 0), 15);
        c.due("owes", x.about(0, 1), 0);
        c.due(x, "bring up to the most", x.bring(0, 999985, 1000000), 0);
        c.due("store", x.about(0, 0), 1000000);
        c.due("owes", x.about(0, 1), 1000000);
        int[][] wrong = {{1, 0}, {0, 1}, {-1000001, 0}, {0, -1000001}, {MAX, 0}, {0, MAX}, {MIN, 0}, {0, MIN}, {-1, 1}};
        for (int[] w : wrong) {
            c.due(x, "bring too much or too little", x.bring(0, w[0], w[1]), 2);
        }
        c.due("store still", x.about(0, 0), 1000000);
        c.due(x, "bring(0, -1000000, -1000000)", x.bring(0, -1000000, -1000000), 0);
        c.due("store", x.about(0, 0), 0);
        c.due(x, "bring to place 1", x.bring(1, 0, 0), 1);
        c.due("tally", x.about(0, 2), 0);
    }

    private static void lasting() {
        CourtProgress x = new CourtProgress();
        c.due(x, "lasts() without a place", x.lasts(), -1, 6);
        x.place(100, 70, 0);
        c.due(x, "lasts() if nothing is eaten", x.lasts(), 200, 0);
        x.household(1, 10, 0);
        Texts.ordain(x, 0, "eats 1");
        c.due(x, "lasts() by what it owes", x.lasts(), 7, 0);
        x.bring(0, -35, 0);
        c.due(x, "lasts() by its store", x.lasts(), 6, 0);
        x.step(0);
        c.due(x, "lasts() a day later", x.lasts(), 5, 0);
        Texts.ordain(x, 3, "eats 100");
        c.due(x, "lasts() until day 3", x.lasts(), 2, 0);
        Texts.ordain(x, 2, "eats 0");
        Texts.ordain(x, 3, "eats 0");
        c.due(x, "lasts() to the last day", x.lasts(), 199, 0);
        x.bring(0, -x.about(0, 0), 0);
        c.due(x, "lasts() not even today", x.lasts(), 0, 0);
    }

    private static void steps() {
        CourtProgress x = new CourtProgress();
        x.place(25, 100, 0);
        x.place(100, 5, 0);
        x.way(0, 1, 10);
        x.household(1, 10, 2);
        Texts.ordain(x, 0, "eats 1; feeds 1");
        c.due(x, "step(0)", x.step(0), 0, 0);
        c.due(x, "step(1)", x.step(1), 0, 0);
        c.due("where the court is", x.count(6), 1);
        c.due(x, "step(1) lacks by what it owes", x.step(1), 7, 0);
        c.due(x, "step(0) lacks all", x.step(0), 12, 0);
        c.due(x, "step(0) lacks by its store", x.step(0), 11, 0);
        int[][] was = {{0, 0}, {0, 0}, {1, 7}, {1, 12}, {0, 11}};
        for (int day = 0; day < was.length; day++) {
            c.due("was(" + day + ")", x.was(day), was[day][0]);
            c.due("lacked(" + day + ")", x.lacked(day), was[day][1]);
        }
        int[] away = {5, -1, 199, 200, MIN, MAX};
        for (int day : away) {
            c.due("was(" + day + ")", x.was(day), -1);
            c.due("lacked(" + day + ")", x.lacked(day), -1);
        }
        int[][] facts = {{0, 75, 25, 0, 3}, {95, 0, 5, 0, 2}};
        for (int p = 0; p < 2; p++) {
            for (int what = 0; what < 5; what++) {
                c.due("about(" + p + ", " + what + ")", x.about(p, what), facts[p][what]);
            }
        }
    }

    private static void stepsRefused() {
        CourtProgress x = new CourtProgress();
        c.due(x, "step without a place", x.step(0), -1, 1);
        x.place(0, 0, 0);
        x.place(0, 0, 0);
        c.due(x, "step to no place", x.step(2), -1, 1);
        c.due(x, "step to -1", x.step(-1), -1, 1);
        c.due(x, "step without a way", x.step(1), -1, 5);
        c.due("no step was made", x.count(5), 0);
        for (int day = 0; day < 199; day++) {
            c.due(x, "step on day " + day, x.step(0), 0, 0);
        }
        c.due("TODAY", x.count(5), 199);
        c.due(x, "step on day 199", x.step(0), -1, 2);
        c.due(x, "step on day 199 without a way", x.step(1), -1, 5);
        c.due(x, "step on day 199 to no place", x.step(2), -1, 1);
        c.due("was(198)", x.was(198), 0);
        c.due("was(199)", x.was(199), -1);
        c.due("days eaten", x.about(0, 4), 199);
        c.due(x, "lasts() on day 199", x.lasts(), 1, 0);
        c.due(x, "route(199) on day 199", x.route(199), 0, 0);
        c.due(x, "route(200) on day 199", x.route(200), -1, 2);
        c.due(x, "route(198) on day 199", x.route(198), -1, 2);
        c.due("at(199)", x.at(199), 0);
    }

    private static void facts() {
        CourtProgress x = new CourtProgress();
        c.due("about(0, 0) of none", x.about(0, 0), -1);
        x.place(7, 8, 9);
        x.room(0, 1, 1, 1);
        int[] facts = {7, 8, 0, 1, 0};
        for (int what = 0; what < 5; what++) {
            c.due("about(0, " + what + ")", x.about(0, what), facts[what]);
        }
        c.due("about(0, 5)", x.about(0, 5), -1);
        c.due("about(0, -1)", x.about(0, -1), -1);
        c.due("about(1, 0)", x.about(1, 0), -1);
        c.due("about(-1, 0)", x.about(-1, 0), -1);
        c.due("about(MAX, MIN)", x.about(MAX, MIN), -1);
    }

    private static void counts() {
        CourtProgress x = new CourtProgress();
        x.household(1, 1, 1);
        x.household(1, 1, 1);
        x.place(0, 0, 0);
        x.place(0, 0, 0);
        x.place(0, 0, 0);
        x.way(0, 2, 1);
        x.feast(9, 1);
        Texts.ordain(x, 0, "eats 1");
        Texts.ordain(x, 0, "eats 1");
        Texts.feed(x, "x");
        x.plea(1);
        x.plea(2);
        x.hear(1);
        x.step(2);
        int[] counts = {2, 3, 2, 1, 1, 1, 2, 20, -1};
        for (int what = 0; what < counts.length; what++) {
            c.due("count(" + what + ")", x.count(what), counts[what]);
        }
        c.due("count(-1)", x.count(-1), -1);
        c.due("count(MAX)", x.count(MAX), -1);
    }

    /** Calls that cannot be refused leave the trouble as it was. */
    private static void troubles() {
        CourtProgress x = new CourtProgress();
        x.household(0, 0, 0);
        x.feed(0, 0, 0, 0, 0);
        x.fault();
        x.where();
        x.force(-1);
        x.eats(0, 0, true);
        x.need(-1);
        x.lodged(-1);
        x.at(-1);
        x.about(-1, -1);
        x.was(-1);
        x.lacked(-1);
        x.heard(-1);
        x.next(-1);
        x.count(-1);
        c.due("trouble() after calls that cannot be refused", x.trouble(), 2);
        c.due("trouble() again", x.trouble(), 2);
        x.place(0, 0, 0);
        c.due("trouble() after a call that was not refused", x.trouble(), 0);
    }
}
