/** Promises 10 to 16: the tape, the texts with their faults, what is in force and what is eaten. */
public final class OrdinanceTest {
    private static final Checks c = new Checks("OrdinanceTest");

    public static void main(String[] args) {
        tape();
        refusals();
        forms();
        names();
        many();
        sounds();
        forces();
        portions();
        afterFaults();
        needs();
        c.end();
    }

    private static void tape() {
        CourtProgress x = new CourtProgress();
        for (int fed = 20; fed <= 400; fed += 20) {
            c.due("feed", x.feed(-1, 0, 1, 2, 3), fed);
        }
        c.due("feed beyond 400", x.feed(0, 0, 0, 0, 0), -1);
        c.due("count(7)", x.count(7), 400);
        c.due(x, "ordinance(0, 401)", x.ordinance(0, 401), -1, 2);
        c.due("the tape stays", x.count(7), 400);
        c.due(x, "ordinance(0, 400) of bytes that begin no token", x.ordinance(0, 400), -1, 4);
        c.due("the tape is empty", x.count(7), 0);
        c.due("feed again", x.feed(0, 0, 0, 0, 0), 20);
        CourtProgress y = new CourtProgress();
        y.household(1, 1, 1);
        // "eats" " 1+2" "3*mo" "uths" "    ": the highest byte first.
        y.feed(0x65617473, 0x20312b32, 0x332a6d6f, 0x75746873, 0x20202020);
        c.due(y, "ordinance of fed bytes", y.ordinance(0, 20), 0, 0);
        c.due("eats(0, 0, false)", y.eats(0, 0, false), 24);
        String whole = "eats 1" + " ".repeat(390) + "+  7";
        c.due("text of 400 bytes", Texts.ordain(y, 0, whole), 1);
        c.due("eats(0, 0, false)", y.eats(0, 0, false), 8);
    }

    private static void refusals() {
        CourtProgress x = new CourtProgress();
        Texts.feed(x, "eats 1");
        int[][] wrong = {{-1, 6}, {200, 6}, {0, -1}, {0, 21}, {Integer.MIN_VALUE, 6}, {0, Integer.MAX_VALUE}};
        for (int[] w : wrong) {
            c.due(x, "ordinance with a wrong number", x.ordinance(w[0], w[1]), -1, 2);
            c.due("the tape stays", x.count(7), 20);
            c.due("fault()", x.fault(), 0);
            c.due("where()", x.where(), -1);
        }
        c.due(x, "ordinance(199, 5)", x.ordinance(199, 5), -1, 4);
        c.due("fault()", x.fault(), 1);
        c.due("where()", x.where(), 5);
        c.due("the tape is empty", x.count(7), 0);
        c.due(x, "ordinance(0, 1) of an empty tape", x.ordinance(0, 1), -1, 2);
        c.due("fault() stays", x.fault(), 1);
        c.due("where() is none", x.where(), -1);
        for (int o = 0; o < 10; o++) {
            c.due(x, "ordinance", Texts.ordain(x, 199 - o, "eats 1"), o, 0);
            c.due("fault()", x.fault(), 0);
        }
        c.due(x, "an eleventh with a fault", Texts.ordain(x, 0, "eats x"), -1, 4);
        c.due("fault()", x.fault(), 2);
        c.due("where()", x.where(), 5);
        c.due(x, "an eleventh", Texts.ordain(x, 0, "eats 9"), -1, 3);
        c.due("fault()", x.fault(), 0);
        c.due("where()", x.where(), -1);
        c.due("the tape is empty", x.count(7), 0);
        c.due("force(0)", x.force(0), -2);
        c.due("count(2)", x.count(2), 10);
        Texts.ordain(x, 0, "x");
        c.due("where()", x.where(), 0);
        x.household(1, 1, 1);
        c.due("where() after a call that was not refused", x.where(), -1);
        c.due("fault() still", x.fault(), 1);
    }

    private static void fault(String text, int kind, int place) {
        CourtProgress x = new CourtProgress();
        int got = Texts.ordain(x, 0, text);
        c.due(x, "ordinance '" + text + "'", got, kind == 0 ? 0 : -1, kind == 0 ? 0 : 4);
        c.due("fault() of '" + text + "'", x.fault(), kind);
        c.due("where() of '" + text + "'", x.where(), place);
    }

    private static void forms() {
        fault("", 1, 0);
        fault("   ", 1, 3);
        fault("eats", 1, 4);
        fault("eats  ", 1, 6);
        fault("  eat 1", 1, 2);
        fault("eats 1 1", 1, 7);
        fault("eats 1 rank", 1, 7);
        fault("eats 1;", 1, 7);
        fault("eats 1; ", 1, 8);
        fault("eats 1;;", 1, 7);
        fault("; eats 1", 1, 0);
        fault("eats +1", 1, 5);
        fault("eats 1+", 1, 7);
        fault("eats 1++2", 1, 7);
        fault("eats 1*", 1, 7);
        fault("eats 1*2", 1, 7);
        fault("eats rank*2", 1, 9);
        fault("eats 1*rank*2", 1, 11);
        fault("eats 1234", 1, 5);
        fault("eats 1 + 1234", 1, 9);
        fault("eats abcdefghi", 1, 5);
        fault("abcdefghi", 1, 0);
        fault("eats Rank", 1, 5);
        fault("eats 1-2", 1, 6);
        fault("eats\t1", 1, 4);
        fault("eats 1" + (char) 0, 1, 6);
        fault("eats " + (char) 233, 1, 5);
        fault("eats 1" + (char) 160, 1, 6);
        fault("rank", 1, 0);
        fault("5", 1, 0);
        fault("and", 1, 0);
        fault("when", 1, 4);
        fault("when 5", 1, 5);
        fault("when <", 1, 5);
        fault("when rank", 1, 9);
        fault("when rank 5", 1, 10);
        fault("when rank + 5", 1, 10);
        fault("when rank <", 1, 11);
        fault("when rank < >", 1, 12);
        fault("when rank < rank", 1, 12);
        fault("when rank < bread", 1, 12);
        fault("when rank < 5", 1, 13);
        fault("when rank < 5 ;", 1, 14);
        fault("when rank < 5 when", 1, 14);
        fault("when rank < 5 bread", 1, 14);
        fault("when rank < 5 and", 1, 17);
        fault("when rank < 5 and eats 1", 1, 18);
        fault("when rank < 5 and and", 1, 18);
        fault("when rank < 5 eats", 1, 18);
        fault("when rank < 5 eats 1 and rank", 1, 21);
        fault("eats 1 when rank < 5", 1, 7);
        fault("eats 1; rank", 1, 8);
        fault("eats 1; bread", 1, 8);
        fault("eats ;", 1, 5);
        fault("eats =", 1, 5);
        fault("eats eats", 1, 5);
        fault("eatsrank", 1, 0);
    }

    private static void names() {
        fault("eats bread", 2, 5);
        fault("eats abcdefgh", 2, 5);
        fault("feeds x", 2, 6);
        fault("eats 1 + x", 2, 9);
        fault("eats 2 * x", 2, 9);
        fault("eats 2*ranks", 2, 7);
        fault("eats 2*ran", 2, 7);
        fault("eats xank", 2, 5);
        fault("eats ranx", 2, 5);
        fault("eats zz", 2, 5);
        fault("eats a", 2, 5);
        fault("when rzz=1 eats 1", 2, 5);
        fault("when x", 2, 5);
        fault("when feasts = 1 eats 1", 2, 5);
        fault("when rank = 1 and x = 2", 2, 18);
        fault("when when", 1, 5);
        fault("when eats", 1, 5);
        fault("eats and", 1, 5);
        fault("eats feeds", 1, 5);
        fault("eats 2*eats", 1, 7);
        fault("eats 2*and", 1, 7);
        fault("eats 2*feeds", 1, 7);
        fault("eats 2*when", 1, 7);
        fault("eats x y", 2, 5);
        fault("eats x" + (char) 1, 2, 5);
    }

    private static void many() {
        String rules = Texts.times("eats 1", 12, ";");
        fault(rules, 0, -1);
        fault(rules + ";", 1, 84);
        fault(rules + "; feeds 1", 3, 85);
        fault(rules + "; eats bread", 3, 85);
        fault(rules + ";when", 3, 84);
        fault(rules + ";rank", 1, 84);
        fault(rules + ";bread", 1, 84);
        fault(rules + ";;", 1, 84);
        fault(rules + ";abcdefghi", 1, 84);
        fault(rules + " eats 1", 1, 84);
        String tests = "when " + Texts.times("day=1", 4, " and ");
        fault(tests + " eats 1", 0, -1);
        fault(tests + " and day = 1 eats 1", 3, 45);
        fault(tests + " and day", 3, 45);
        fault(tests + " and bread", 2, 45);
        fault(tests + " and eats 1", 1, 45);
        fault(tests + " and 1", 1, 45);
        fault(tests + " and", 1, 44);
        fault(tests + " day", 1, 41);
        fault("eats 1+1+1+1", 0, -1);
        fault("eats 1+1+1+1+1", 3, 13);
        fault("eats 1+1+1+1*rank+ rank", 3, 19);
        fault("eats 1+1+1+1+bread", 2, 13);
        fault("eats 1+1+1+1+eats", 1, 13);
        fault("eats 1+1+1+1+1000", 1, 13);
        fault("eats 1+1+1+1+", 1, 13);
        fault("eats 1+1+1+1+;", 1, 13);
        fault("eats 1+1+1+1 1", 1, 13);
        // Each rule has tests and terms of its own.
        fault(tests + " eats 1+1+1+1;" + tests + " feeds 1+1+1+1", 0, -1);
    }

    private static void sounds() {
        fault("eats 1", 0, -1);
        fault("   eats   1   ", 0, -1);
        fault("eats1", 0, -1);
        fault("eats1+2*rank+mud;feeds001", 0, -1);
        fault("when rank<5and day>3eats 1", 0, -1);
        fault("when rank<999 and day=0 feeds 999*horses", 0, -1);
        fault("feeds 0;feeds 0", 0, -1);
    }

    private static void forces() {
        CourtProgress x = new CourtProgress();
        c.due("force(0)", x.force(0), -2);
        Texts.ordain(x, 10, "eats 1");
        c.due("force(9)", x.force(9), -2);
        c.due("force(10)", x.force(10), 0);
        c.due("force(199)", x.force(199), 0);
        Texts.ordain(x, 5, "eats 1");
        c.due("force(4)", x.force(4), -2);
        c.due("force(9)", x.force(9), 1);
        c.due("force(10)", x.force(10), 0);
        Texts.ordain(x, 10, "eats 1");
        c.due("force(9)", x.force(9), 1);
        c.due("force(10), the latest told", x.force(10), 2);
        Texts.ordain(x, 0, "eats 1");
        Texts.ordain(x, 199, "eats 1");
        c.due("force(0)", x.force(0), 3);
        c.due("force(198)", x.force(198), 2);
        c.due("force(199)", x.force(199), 4);
        c.due("force(-1)", x.force(-1), -1);
        c.due("force(200)", x.force(200), -1);
        c.due("force(MAX)", x.force(Integer.MAX_VALUE), -1);
    }

    private static int eaten(String text, int day, boolean horse) {
        CourtProgress x = new CourtProgress();
        x.household(7, 30, 11);
        x.place(0, 0, 0);
        x.feast(12, 0);
        x.mud(12, 20, 3);
        Texts.ordain(x, 0, text);
        return x.eats(0, day, horse);
    }

    private static void eatsDue(String text, int day, int mouth, int horse) {
        c.due("each mouth by '" + text + "' on " + day, eaten(text, day, false), mouth);
        c.due("each horse by '" + text + "' on " + day, eaten(text, day, true), horse);
    }

    private static void portions() {
        eatsDue("eats rank; feeds horses", 0, 7, 11);
        eatsDue("eats 3*mouths+2", 0, 92, 0);
        eatsDue("feeds day + mud + feast + 5*feast", 12, 0, 12 + 3 + 1 + 5);
        eatsDue("feeds day + mud + feast + 5*feast", 13, 0, 13 + 3);
        eatsDue("eats 0*rank + 007", 0, 7, 0);
        eatsDue("eats 999*day+999*day+999*day+999*day", 199, 4 * 999 * 199, 0);
        eatsDue("when rank > 7 eats 1; when rank < 7 eats 2; when rank = 7 eats 3; eats 4", 0, 3, 0);
        eatsDue("when rank > 6 eats 1; eats 2", 0, 1, 0);
        eatsDue("when rank < 8 eats 1; eats 2", 0, 1, 0);
        eatsDue("eats 2; when rank > 6 eats 1", 0, 2, 0);
        eatsDue("when rank > 6 and mouths > 30 eats 1; when rank > 6 and mouths = 30 eats 2", 0, 2, 0);
        eatsDue("when day < 5 eats 1; when day > 5 feeds 2", 5, 0, 0);
        eatsDue("when day < 5 eats 1; when day > 5 feeds 2", 4, 1, 0);
        eatsDue("when day < 5 eats 1; when day > 5 feeds 2", 6, 0, 2);
        eatsDue("when feast = 1 feeds 9; feeds 8; eats 1", 12, 1, 9);
        eatsDue("when feast = 0 feeds 9; feeds 8; eats 1", 12, 1, 8);
        eatsDue("when mud=3 and feast=1 and day=12 and horses=11 feeds 6", 12, 0, 6);
        eatsDue("when mud=3 and feast=1 and day=12 and horses=12 feeds 6", 12, 0, 0);
        eatsDue("when rank=1 and rank=1 and rank=1 and rank=1 eats 1+1+1+1*day; eats 2+2+2+2*rank; feeds 3+3+3+3*mud", 13, 20, 18);
        String late = Texts.times("when rank = 1 eats 1", 11, ";") + "; eats 5";
        eatsDue(late, 0, 5, 0);
        CourtProgress x = new CourtProgress();
        c.due("eats of no household", x.eats(0, 0, false), -1);
        x.household(1, 1, 0);
        c.due("eats without an ordinance", x.eats(0, 0, false), 0);
        Texts.ordain(x, 5, "eats 4; feeds 3");
        c.due("eats before it is in force", x.eats(0, 4, false), 0);
        c.due("eats in force", x.eats(0, 5, false), 4);
        c.due("a horse's, though there is none", x.eats(0, 5, true), 3);
        c.due("eats(1, 5, false)", x.eats(1, 5, false), -1);
        c.due("eats(-1, 5, false)", x.eats(-1, 5, false), -1);
        c.due("eats(0, -1, false)", x.eats(0, -1, false), -1);
        c.due("eats(0, 200, true)", x.eats(0, 200, true), -1);
    }

    /** Nothing of a text with a fault is left in the next one. */
    private static void afterFaults() {
        CourtProgress x = new CourtProgress();
        x.household(7, 30, 11);
        Texts.ordain(x, 0, "when rank=1 and day=9 eats 5+6+7+8; eats 4; feeds 3; feeds");
        c.due("where()", x.where(), 58);
        c.due("force(0)", x.force(0), -2);
        c.due("eats(0, 0, false)", x.eats(0, 0, false), 0);
        Texts.ordain(x, 0, "eats 1");
        c.due("eats(0, 0, false)", x.eats(0, 0, false), 1);
        c.due("eats(0, 0, true)", x.eats(0, 0, true), 0);
        Texts.ordain(x, 0, "eats 5; eats 6; feeds 7 feeds");
        Texts.ordain(x, 0, "when rank=1 eats 2");
        c.due("eats(0, 0, false)", x.eats(0, 0, false), 0);
        c.due("eats(0, 0, true)", x.eats(0, 0, true), 0);
        c.due("count(2)", x.count(2), 2);
    }

    private static void needs() {
        CourtProgress x = new CourtProgress();
        x.household(7, 30, 11);
        x.household(2, 5, 0);
        Texts.ordain(x, 0, "when rank > 5 eats 2; eats 1; feeds 3");
        c.due("need(0)", x.need(0), 60 + 5 + 33);
        c.due("need(-1)", x.need(-1), -1);
        c.due("need(200)", x.need(200), -1);
        x.household(9, 99, 99);
        Texts.ordain(x, 1, "eats 999*mouths");
        c.due("need(1) is no more than a million", x.need(1), 1000000);
        c.due("need(0)", x.need(0), 98 + 198 + 297);
        CourtProgress y = new CourtProgress();
        y.household(1, 50, 0);
        y.household(1, 50, 1);
        Texts.ordain(y, 0, "eats 100*mouths+100*mouths");
        c.due("a million", y.need(0), 1000000);
        Texts.ordain(y, 0, "eats 100*mouths+100*mouths; feeds 1");
        c.due("a million and one", y.need(0), 1000000);
        Texts.ordain(y, 0, "eats 100*mouths+99*mouths+49; feeds 99");
        c.due("a million less one", y.need(0), 999999);
    }
}
