/**
 * The boundary cases of promises 10 to 16 and of the Terms III: a method for each sentence that
 * names one, with the sentence above it.
 */
public final class TextBoundsTest {
    private static final Checks c = new Checks("TextBoundsTest");
    private static final int MIN = Integer.MIN_VALUE;
    private static final int MAX = Integer.MAX_VALUE;
    private static final int FORM = 1;
    private static final int NO_NAME = 2;
    private static final int MANY = 3;

    public static void main(String[] args) {
        tapeFull();
        tapeTakesNone();
        tapeHighestFirst();
        feedLeavesTrouble();
        ordinanceDays();
        ordinanceBytes();
        ordinanceOfNoBytes();
        tapeStays();
        tapeIsEmptyThen();
        tenOrdinances();
        ordinanceTroublesInOrder();
        faultOfTheLatest();
        whereOfTheLatest();
        blanks();
        everyByteFirst();
        everyByteForATerm();
        everyByteBehindATerm();
        longWords();
        longNumbers();
        manyTokens();
        textEndsWithItsBytes();
        endsPlace();
        firstFromTheLeft();
        noNames();
        wordsThatAreForm();
        namesElsewhere();
        twelveRules();
        fourTests();
        fourTerms();
        forceUpToTheNext();
        forceOfOneDay();
        forceOfNoDay();
        testsAreStrict();
        firstRuleThatHolds();
        nothingIfNone();
        nameValues();
        eatsOfOthers();
        needAtMost();
        needOfNoDay();
        c.end();
    }

    private static CourtProgress withHousehold() {
        CourtProgress x = new CourtProgress();
        x.household(5, 20, 3);
        return x;
    }

    private static void faultDue(String text, int kind, int place) {
        CourtProgress x = new CourtProgress();
        c.due(x, "P11 '" + text + "'", Texts.ordain(x, 0, text), kind == 0 ? 0 : -1, kind == 0 ? 0 : 4);
        c.due("P12 fault() of '" + text + "'", x.fault(), kind);
        c.due("P13 where() of '" + text + "'", x.where(), place);
        c.due("P31 ORDINANCES after '" + text + "'", x.count(2), kind == 0 ? 1 : 0);
    }

    private static void sound(String text) {
        faultDue(text, 0, -1);
    }

    private static void mouthDue(String text, int day, int eaten) {
        CourtProgress x = withHousehold();
        Texts.ordain(x, 0, text);
        c.due("P15 each mouth by '" + text + "'", x.eats(0, day, false), eaten);
    }

    // "THE TAPE has 400 bytes"; "how many it has"
    private static void tapeFull() {
        CourtProgress x = new CourtProgress();
        c.due("P31 no bytes at first", x.count(7), 0);
        for (int bytes = 20; bytes <= 400; bytes += 20) {
            c.due("P10 feed", x.feed(0, 0, 0, 0, 0), bytes);
            c.due("P31 bytes", x.count(7), bytes);
        }
        c.due("P10 a feed beyond 400", x.feed(0, 0, 0, 0, 0), -1);
        c.due("P31 bytes", x.count(7), 400);
        c.due("P10 and again", x.feed(0, 0, 0, 0, 0), -1);
    }

    // "NONE, and none comes, if there would be more than 400"
    private static void tapeTakesNone() {
        CourtProgress x = withHousehold();
        Texts.feed(x, "eats 7" + " ".repeat(394));
        c.due("P10 feed", x.feed(-1, -1, -1, -1, -1), -1);
        c.due(x, "P11 all 400 bytes", x.ordinance(0, 400), 0, 0);
        c.due("P15 eats", x.eats(0, 0, false), 7);
        c.due("P10 feed of an empty tape", x.feed(0, 0, 0, 0, 0), 20);
    }

    // "of each number the highest first"
    private static void tapeHighestFirst() {
        CourtProgress x = withHousehold();
        x.feed(0x65617473, 0x20333231, 0x2b326d6f, 0x20202020, 0x20202020);
        c.due(x, "P11 'eats 321'", x.ordinance(0, 8), 0, 0);
        c.due("P15 eats", x.eats(0, 0, false), 321);
        int[] places = {0, 4, 8, 12, 16};
        for (int place : places) {
            int[] fed = {Texts.four("eats", 0), Texts.four("   1", 0), Texts.four(" +1 ", 0), Texts.four("+1  ", 0), Texts.four("+1  ", 0)};
            // The number's last byte is no token; the numbers before it are whole.
            fed[place / 4] = fed[place / 4] & ~255 | 255;
            x.feed(fed[0], fed[1], fed[2], fed[3], fed[4]);
            c.due(x, "P11 a wrong byte at " + (place + 3), x.ordinance(0, 20), -1, 4);
            c.due("P13 where()", x.where(), place == 0 ? 0 : place + 3);
        }
        x.feed(0xff617473, 0, 0, 0, 0);
        x.ordinance(0, 4);
        c.due("P13 a number below 0 begins with a byte beyond 127", x.where(), 0);
    }

    /** No TROUBLE is named for feed: it is none of the calls that may be refused by one. */
    private static void feedLeavesTrouble() {
        CourtProgress x = new CourtProgress();
        Texts.ordain(x, 0, "eats 1 x");
        x.feed(0, 0, 0, 0, 0);
        c.due("P32 trouble() after feed", x.trouble(), 4);
        c.due("P13 where() after feed", x.where(), 7);
    }

    // "in force from a DAY on"; DAYS 0 .. 199; "2"
    private static void ordinanceDays() {
        int[] days = {MIN, -1, 200, MAX};
        for (int day : days) {
            CourtProgress x = new CourtProgress();
            c.due(x, "P11 from day " + day, Texts.ordain(x, day, "eats 1"), -1, 2);
            c.due("P31 ORDINANCES", x.count(2), 0);
        }
        CourtProgress x = new CourtProgress();
        c.due(x, "P11 from day 199", Texts.ordain(x, 199, "eats 1"), 0, 0);
        c.due(x, "P11 from day 0", Texts.ordain(x, 0, "eats 1"), 1, 0);
        c.due("P14 force(198)", x.force(198), 1);
        c.due("P14 force(199)", x.force(199), 0);
    }

    // "The first n bytes of THE TAPE"; "2"
    private static void ordinanceBytes() {
        int[] wrong = {MIN, -1, 21, 40, 400, 401, MAX};
        for (int n : wrong) {
            CourtProgress x = new CourtProgress();
            Texts.feed(x, "eats 1");
            c.due(x, "P11 " + n + " of 20 bytes", x.ordinance(0, n), -1, 2);
            c.due("P31 bytes", x.count(7), 20);
        }
        for (int n = 6; n <= 20; n++) {
            CourtProgress x = new CourtProgress();
            Texts.feed(x, "eats 1");
            c.due(x, "P11 " + n + " of 20 bytes", x.ordinance(0, n), 0, 0);
        }
        CourtProgress x = new CourtProgress();
        c.due(x, "P11 1 of no bytes", x.ordinance(0, 1), -1, 2);
        c.due(x, "P11 -1 of no bytes", x.ordinance(0, -1), -1, 2);
    }

    private static void ordinanceOfNoBytes() {
        CourtProgress x = new CourtProgress();
        c.due(x, "P11 none of no bytes", x.ordinance(0, 0), -1, 4);
        c.due("P12 fault()", x.fault(), FORM);
        c.due("P13 where()", x.where(), 0);
        Texts.feed(x, "eats 1");
        c.due(x, "P11 none of 20 bytes", x.ordinance(0, 0), -1, 4);
        c.due("P13 where()", x.where(), 0);
        Texts.feed(x, " eats 1");
        c.due(x, "P11 none of 20 bytes, the first a blank", x.ordinance(0, 0), -1, 4);
        c.due("P13 where()", x.where(), 0);
        c.due("P31 bytes", x.count(7), 0);
    }

    // "2 (THE TAPE stays)"
    private static void tapeStays() {
        CourtProgress x = withHousehold();
        Texts.feed(x, "eats 4");
        x.ordinance(200, 6);
        x.ordinance(0, 21);
        x.ordinance(-1, -1);
        c.due("P31 bytes", x.count(7), 20);
        Texts.feed(x, "+ 2");
        c.due(x, "P11 what stayed and what came", x.ordinance(0, 23), 0, 0);
        c.due("P15 eats", x.eats(0, 0, false), 6);
    }

    // "(it is empty then)"
    private static void tapeIsEmptyThen() {
        CourtProgress x = new CourtProgress();
        Texts.feed(x, "eats 1" + " ".repeat(30));
        c.due(x, "P11 six of 40 bytes", x.ordinance(0, 6), 0, 0);
        c.due("P31 the others are gone, too", x.count(7), 0);
        Texts.feed(x, "eats x");
        x.ordinance(0, 6);
        c.due("P31 after a FAULT", x.count(7), 0);
        for (int o = 1; o < 10; o++) {
            Texts.ordain(x, 0, "eats 1");
        }
        Texts.feed(x, "eats 1");
        c.due(x, "P11 an eleventh", x.ordinance(0, 6), -1, 3);
        c.due("P31 after no room", x.count(7), 0);
    }

    // "ORDINANCES 10"; "3"
    private static void tenOrdinances() {
        CourtProgress x = fullOfOrdinances();
        c.due(x, "P11 an eleventh ORDINANCE", Texts.ordain(x, 5, "eats 50; feeds 60"), -1, 3);
        for (int o = 0; o < 10; o++) {
            c.due("P15 eats by ordinance " + o, x.eats(0, 10 * o + 9, false), o + 1);
        }
        c.changesNothing("P11 an eleventh ORDINANCE", TextBoundsTest::fullOfOrdinances, y -> Texts.ordain(y, 5, "eats 50; feeds 60"));
    }

    private static CourtProgress fullOfOrdinances() {
        CourtProgress x = withHousehold();
        for (int o = 0; o < 10; o++) {
            c.due(x, "P11 ordinance " + o, Texts.ordain(x, 10 * o, "eats " + (o + 1)), o, 0);
        }
        return x;
    }

    // "NONE: 2 (THE TAPE stays); 4; 3."
    private static void ordinanceTroublesInOrder() {
        CourtProgress x = new CourtProgress();
        for (int o = 0; o < 10; o++) {
            Texts.ordain(x, 0, "eats 1");
        }
        c.due(x, "P11 an eleventh with a FAULT from no DAY", Texts.ordain(x, 200, "eats x"), -1, 2);
        c.due("P31 bytes", x.count(7), 20);
        c.due(x, "P11 an eleventh with a FAULT", x.ordinance(0, 6), -1, 4);
        c.due(x, "P11 an eleventh of no bytes", x.ordinance(0, 0), -1, 4);
        c.due(x, "P11 an eleventh", Texts.ordain(x, 0, "eats 1"), -1, 3);
        c.due(x, "P11 an eleventh from no DAY", Texts.ordain(x, -1, "eats 1"), -1, 2);
    }

    // "The FAULT of the latest ordinance() not refused by 2; 0 without one."
    private static void faultOfTheLatest() {
        CourtProgress x = new CourtProgress();
        c.due("P12 before any", x.fault(), 0);
        x.ordinance(200, 0);
        c.due("P12 after one refused by 2", x.fault(), 0);
        Texts.ordain(x, 0, "eats x");
        c.due("P12 of a FAULT", x.fault(), NO_NAME);
        x.ordinance(0, 401);
        c.due("P12 it stays after one refused by 2", x.fault(), NO_NAME);
        x.household(1, 1, 1);
        x.household(0, 0, 0);
        Texts.feed(x, "eats 1");
        c.due("P12 it stays after other calls", x.fault(), NO_NAME);
        x.ordinance(0, 6);
        c.due("P12 after one without", x.fault(), 0);
        for (int o = 1; o < 10; o++) {
            Texts.ordain(x, 0, "eats 1");
        }
        Texts.ordain(x, 0, "eats");
        c.due("P12 of a FAULT when there are ten", x.fault(), FORM);
        Texts.ordain(x, 0, "eats 1");
        c.due("P12 after one refused by 3", x.fault(), 0);
    }

    // "Its place, if the latest call that may be refused was by 4; NONE else."
    private static void whereOfTheLatest() {
        CourtProgress x = new CourtProgress();
        c.due("P13 before any", x.where(), -1);
        Texts.ordain(x, 0, "eats 1 x");
        c.due("P13 of a FAULT", x.where(), 7);
        c.due("P13 again", x.where(), 7);
        x.trouble();
        x.count(0);
        x.force(-1);
        x.need(200);
        x.at(0);
        x.lodged(0);
        x.heard(0);
        x.next(0);
        x.eats(0, 0, false);
        x.about(0, 0);
        x.was(0);
        x.lacked(0);
        c.due("P13 after calls that can't be refused", x.where(), 7);
        x.ordinance(200, 0);
        c.due("P13 after one refused by 2", x.where(), -1);
        c.due("P12 though the FAULT stays", x.fault(), FORM);
        Texts.ordain(x, 0, "eats 1 x");
        x.household(0, 0, 0);
        c.due("P13 after another refused call", x.where(), -1);
        Texts.ordain(x, 0, "eats 1 x");
        x.hear(1);
        c.due("P13 after another call that was not refused", x.where(), -1);
        Texts.ordain(x, 0, "eats 1 x");
        x.lasts();
        c.due("P13 after lasts()", x.where(), -1);
        Texts.ordain(x, 0, "eats 1 x");
        x.why(0);
        c.due("P13 after why()", x.where(), -1);
        Texts.ordain(x, 0, "eats 1");
        c.due("P13 without a FAULT", x.where(), -1);
    }

    // "blanks, 32, part TOKENS and mean nothing else"
    private static void blanks() {
        sound("eats 1");
        sound("eats1");
        sound("   eats   1   ");
        sound("when rank<1and rank>2eats1+2*rank;feeds3");
        sound("when  rank  <  1  and  rank  >  2  eats  1  +  2  *  rank  ;  feeds  3");
        faultDue("ea ts 1", FORM, 0);
        faultDue("eats 1 2", FORM, 7);
        mouthDue("eats 12", 0, 12);
        faultDue("when rank < 1 2 eats 1", FORM, 14);
        faultDue("eats ra nk", NO_NAME, 5);
        faultDue("eats\n1", FORM, 4);
        faultDue("eats 1\r", FORM, 6);
        faultDue(" \teats 1", FORM, 1);
    }

    private static boolean isLetter(int b) {
        return b >= 97 && b <= 122;
    }

    private static boolean isDigit(int b) {
        return b >= 48 && b <= 57;
    }

    // "the first byte that begins no TOKEN"
    private static void everyByteFirst() {
        for (int b = 0; b < 256; b++) {
            if (b == 32) {
                sound((char) b + "eats 1");
            } else {
                faultDue((char) b + "eats 1", FORM, 0);
            }
        }
    }

    private static void everyByteForATerm() {
        for (int b = 0; b < 256; b++) {
            String text = "eats " + (char) b;
            if (isDigit(b)) {
                sound(text);
            } else {
                faultDue(text, isLetter(b) ? NO_NAME : FORM, b == 32 ? 6 : 5);
            }
        }
    }

    private static void everyByteBehindATerm() {
        for (int b = 0; b < 256; b++) {
            String text = "eats 1" + (char) b;
            if (isDigit(b) || b == 32) {
                sound(text);
            } else {
                boolean goesOn = b == '+' || b == '*' || b == ';';
                faultDue(text, FORM, goesOn ? 7 : 6);
            }
        }
    }

    // "WORDS of 1 to 8 small letters that stand together"
    private static void longWords() {
        faultDue("eats a", NO_NAME, 5);
        faultDue("eats abcdefgh", NO_NAME, 5);
        faultDue("eats abcdefghi", FORM, 5);
        faultDue("eats rankranks", FORM, 5);
        faultDue("eats abcdefgh i", NO_NAME, 5);
        faultDue("eats " + "z".repeat(395), FORM, 5);
        faultDue("x".repeat(400), FORM, 0);
        faultDue("eats 2*abcdefghi", FORM, 7);
        faultDue("when abcdefghi = 1 eats 1", FORM, 5);
        faultDue("eats 1 + abcdefgh", NO_NAME, 9);
        faultDue("eats ranK", NO_NAME, 5);
        faultDue("eats Rank", FORM, 5);
        faultDue("EATS 1", FORM, 0);
    }

    // "NUMBERS of 1 to 3 digits that do"
    private static void longNumbers() {
        mouthDue("eats 0", 0, 0);
        mouthDue("eats 9", 0, 9);
        mouthDue("eats 99", 0, 99);
        mouthDue("eats 999", 0, 999);
        mouthDue("eats 000", 0, 0);
        mouthDue("eats 010", 0, 10);
        faultDue("eats 1000", FORM, 5);
        faultDue("eats 0000", FORM, 5);
        faultDue("eats 0001", FORM, 5);
        faultDue("eats " + "1".repeat(395), FORM, 5);
        faultDue("when rank < 1000 eats 1", FORM, 12);
        sound("when rank < 999 eats 1");
        faultDue("eats 1 + 1000 * rank", FORM, 9);
        faultDue("eats -1", FORM, 5);
        mouthDue("eats 999*rank", 0, 4995);
    }

    /** As many tokens as there are bytes. */
    private static void manyTokens() {
        faultDue(";".repeat(400), FORM, 0);
        faultDue("eats1" + ";".repeat(395), FORM, 6);
        faultDue("eats1" + "+1".repeat(197) + "+", MANY, 12);
        faultDue(" ".repeat(400), FORM, 400);
        faultDue("eats1" + " ".repeat(394) + ";", FORM, 400);
        sound("eats1" + " ".repeat(393) + "+1");
    }

    private static void cutDue(String text, int n, int kind, int place) {
        CourtProgress x = new CourtProgress();
        Texts.feed(x, text);
        x.ordinance(0, n);
        c.due("P12 fault() of " + n + " bytes of '" + text + "'", x.fault(), kind);
        c.due("P13 where() of " + n + " bytes of '" + text + "'", x.where(), place);
    }

    // "The first n bytes": what stands behind them is no part of the text
    private static void textEndsWithItsBytes() {
        cutDue("eats abcdefghi", 13, NO_NAME, 5);
        cutDue("eats abcdefghi", 14, FORM, 5);
        cutDue("eats 1000", 8, 0, -1);
        cutDue("eats 1000", 9, FORM, 5);
        cutDue("eats rank", 8, NO_NAME, 5);
        cutDue("eats rank", 9, 0, -1);
        cutDue("eats rankx", 9, 0, -1);
        cutDue("eats 1;", 6, 0, -1);
        cutDue("eats 1+2", 7, FORM, 7);
        cutDue("eats 1", 4, FORM, 4);
        cutDue("eats 1", 3, FORM, 0);
        CourtProgress x = withHousehold();
        Texts.ordain(x, 0, "eats 123456");
        Texts.feed(x, "eats 12");
        x.ordinance(0, 6);
        c.due("P15 eats by 'eats 1'", x.eats(0, 0, false), 1);
    }

    // "(the end: its place)"
    private static void endsPlace() {
        faultDue("", FORM, 0);
        faultDue(" ", FORM, 1);
        faultDue("eats", FORM, 4);
        faultDue("eats ", FORM, 5);
        faultDue("eats 1;", FORM, 7);
        faultDue("eats 1+", FORM, 7);
        faultDue("eats 1*", FORM, 7);
        faultDue("when", FORM, 4);
        faultDue("when rank", FORM, 9);
        faultDue("when rank=", FORM, 10);
        faultDue("when rank=1", FORM, 11);
        faultDue("when rank=1 and", FORM, 15);
        faultDue("when rank=1 feeds", FORM, 17);
        faultDue("eats 1;" + " ".repeat(393), FORM, 400);
    }

    // "the first that is met from the left, of one place the least number"
    private static void firstFromTheLeft() {
        faultDue("eats bread !", NO_NAME, 5);
        faultDue("eats ! bread", FORM, 5);
        faultDue("eats 1+1+1+1+1 bread", MANY, 13);
        faultDue("eats bread + 1 + 1 + 1 + 1", NO_NAME, 5);
        faultDue("eats 1+1+1+1+bread", NO_NAME, 13);
        faultDue("eats 1+1+1+1+!", FORM, 13);
        faultDue("eats 1+1+1+1+eats", FORM, 13);
        faultDue("when x = 1 eats y", NO_NAME, 5);
        faultDue("when rank ! 1 eats y", FORM, 10);
    }

    // "2 a WORD that is no NAME where one is to be"
    private static void noNames() {
        faultDue("when bread = 1 eats 1", NO_NAME, 5);
        faultDue("when rank = 1 and bread = 1 eats 1", NO_NAME, 18);
        faultDue("eats bread", NO_NAME, 5);
        faultDue("feeds bread", NO_NAME, 6);
        faultDue("eats 1 + bread", NO_NAME, 9);
        faultDue("eats 3 * bread", NO_NAME, 9);
        String[] near = {"ran", "ranks", "mouth", "mouthss", "horse", "horsess", "da", "days", "mu", "muds", "feas", "feasts", "eat", "feed", "whe", "an"};
        for (String word : near) {
            faultDue("eats " + word, NO_NAME, 5);
        }
    }

    // "(when, and, eats, feeds: there they are 1)"
    private static void wordsThatAreForm() {
        String[] words = {"when", "and", "eats", "feeds"};
        for (String word : words) {
            faultDue("when " + word + " = 1 eats 1", FORM, 5);
            faultDue("when rank = 1 and " + word + " = 1 eats 1", FORM, 18);
            faultDue("eats " + word, FORM, 5);
            faultDue("feeds " + word, FORM, 6);
            faultDue("eats 1 + " + word, FORM, 9);
            faultDue("eats 3 * " + word, FORM, 9);
        }
    }

    // "TOKEN with which no text goes on": a WORD where no NAME is to be is 1
    private static void namesElsewhere() {
        String[] words = {"bread", "rank", "abcdefgh"};
        for (String word : words) {
            faultDue(word, FORM, 0);
            faultDue("eats 1 " + word, FORM, 7);
            faultDue("eats 1;" + word, FORM, 7);
            faultDue("when rank " + word, FORM, 10);
            faultDue("when rank < " + word, FORM, 12);
            faultDue("when rank < 1 " + word, FORM, 14);
            faultDue("eats rank " + word, FORM, 10);
            faultDue("eats 2*rank " + word, FORM, 12);
        }
        faultDue("eats 2*3", FORM, 7);
        faultDue("eats rank*2", FORM, 9);
        faultDue("when 1 < rank eats 1", FORM, 5);
        faultDue("when rank < 1 + 1 eats 1", FORM, 14);
        faultDue("when rank <= 1 eats 1", FORM, 11);
        faultDue("eats 1; when", FORM, 12);
        faultDue("eats 1 eats 1", FORM, 7);
        faultDue("eats 1 feeds 1", FORM, 7);
        faultDue("eats 1 and", FORM, 7);
    }

    // "3 MANY: a 13th RULE": "at its first TOKEN, if it may stand there (else 1)"
    private static void twelveRules() {
        String twelve = Texts.times("eats 1", 12, ";");
        sound(twelve);
        faultDue(twelve + "; eats 1", MANY, 85);
        faultDue(twelve + ";feeds 1", MANY, 84);
        faultDue(twelve + ";when rank = 1 eats 1", MANY, 84);
        faultDue(twelve + ";eats", MANY, 84);
        faultDue(twelve + ";when !", MANY, 84);
        faultDue(twelve + ";", FORM, 84);
        faultDue(twelve + ";  ", FORM, 86);
        faultDue(twelve + ";!", FORM, 84);
        faultDue(twelve + ";rank", FORM, 84);
        faultDue(twelve + ";bread", FORM, 84);
        faultDue(twelve + ";and", FORM, 84);
        faultDue(twelve + ";1", FORM, 84);
        faultDue(twelve + ";+", FORM, 84);
        faultDue(Texts.times("feeds 1", 6, ";") + ";" + Texts.times("eats 1", 7, ";"), MANY, 90);
        faultDue(Texts.times("eats 1", 11, ";") + ";eats x; eats 1", NO_NAME, 82);
        mouthDue(Texts.times("when rank = 1 eats 1", 11, ";") + ";eats 12", 0, 12);
    }

    // "a fifth TEST"
    private static void fourTests() {
        String four = "when " + Texts.times("rank=5", 4, " and ");
        sound(four + " eats 1");
        faultDue(four + " and rank=5 eats 1", MANY, 49);
        faultDue(four + " and  day", MANY, 50);
        faultDue(four + " and bread", NO_NAME, 49);
        faultDue(four + " and when", FORM, 49);
        faultDue(four + " and and", FORM, 49);
        faultDue(four + " and 5", FORM, 49);
        faultDue(four + " and !", FORM, 49);
        faultDue(four + " and", FORM, 48);
        faultDue("eats 1;" + four + " feeds 1; " + four + " and rank", MANY, 110);
        sound(Texts.times(four + " eats 1", 6, ";"));
        mouthDue(four + " eats 1; eats 2", 0, 1);
        mouthDue("when rank=5 and rank=5 and rank=5 and rank=4 eats 1; eats 2", 0, 2);
    }

    // "a fifth TERM"
    private static void fourTerms() {
        sound("eats 1+1+1+1");
        faultDue("eats 1+1+1+1+1", MANY, 13);
        faultDue("eats 1+1+1+1+ rank", MANY, 14);
        faultDue("eats 1+1+1+1+1*x", MANY, 13);
        faultDue("eats 1+1+1+1+bread", NO_NAME, 13);
        faultDue("eats 1+1+1+1+and", FORM, 13);
        faultDue("eats 1+1+1+1++", FORM, 13);
        faultDue("eats 1+1+1+1+;", FORM, 13);
        faultDue("eats 1+1+1+1+1000", FORM, 13);
        faultDue("eats 1+1+1+1+", FORM, 13);
        faultDue("feeds 2*rank+2*rank+2*rank+2*rank+2*rank", MANY, 34);
        faultDue("eats 1+1+1+1; eats 1+1+1+1; feeds 1+1+1+1+1", MANY, 42);
        mouthDue("eats 1+20+300+2*rank", 0, 331);
    }

    // "in force from a DAY on, up to the one with the next DAY"; "-2 if there is none"
    private static void forceUpToTheNext() {
        CourtProgress x = new CourtProgress();
        c.due("P14 none", x.force(0), -2);
        c.due("P14 none", x.force(199), -2);
        Texts.ordain(x, 100, "eats 1");
        c.due("P14 the DAY before", x.force(99), -2);
        c.due("P14 its DAY", x.force(100), 0);
        c.due("P14 the last DAY", x.force(199), 0);
        Texts.ordain(x, 101, "eats 1");
        c.due("P14 up to the next", x.force(100), 0);
        c.due("P14 the next", x.force(101), 1);
        Texts.ordain(x, 99, "eats 1");
        c.due("P14 one told later, of an earlier DAY", x.force(99), 2);
        c.due("P14 up to the first", x.force(100), 0);
        c.due("P14 the second still", x.force(199), 1);
        c.due("P14 none before", x.force(98), -2);
    }

    // "of one DAY the latest told"
    private static void forceOfOneDay() {
        CourtProgress x = withHousehold();
        Texts.ordain(x, 0, "eats 1");
        Texts.ordain(x, 0, "eats 2");
        c.due("P14 the latest told", x.force(0), 1);
        c.due("P15 eats", x.eats(0, 199, false), 2);
        Texts.ordain(x, 199, "eats 3");
        Texts.ordain(x, 199, "eats 4");
        c.due("P14 the latest told", x.force(199), 3);
        c.due("P14 the DAY before", x.force(198), 1);
        Texts.ordain(x, 0, "eats x");
        c.due("P14 one with a FAULT is none", x.force(0), 1);
        Texts.ordain(x, 0, "eats 5");
        c.due("P14 the latest told of day 0", x.force(198), 4);
        c.due("P14 that of day 199 stays", x.force(199), 3);
    }

    // "NONE for no DAY"
    private static void forceOfNoDay() {
        CourtProgress x = new CourtProgress();
        int[] none = {MIN, -2, -1, 200, MAX};
        for (int day : none) {
            c.due("P14 force(" + day + ")", x.force(day), -1);
        }
        Texts.ordain(x, 0, "eats 1");
        for (int day : none) {
            c.due("P14 force(" + day + ")", x.force(day), -1);
        }
    }

    // "NAME < NUMBER, NAME > NUMBER, NAME = NUMBER"
    private static void testsAreStrict() {
        for (int number = 4; number <= 6; number++) {
            mouthDue("when rank < " + number + " eats 1", 0, 5 < number ? 1 : 0);
            mouthDue("when rank > " + number + " eats 1", 0, 5 > number ? 1 : 0);
            mouthDue("when rank = " + number + " eats 1", 0, 5 == number ? 1 : 0);
        }
        mouthDue("when feast > 0 eats 1; eats 2", 0, 2);
        mouthDue("when feast < 0 eats 1; eats 2", 0, 2);
        mouthDue("when day > 198 eats 1", 199, 1);
        mouthDue("when day > 199 eats 1", 199, 0);
        mouthDue("when day < 999 eats 1", 199, 1);
    }

    // "the SUM of the first eats RULE .. whose TESTS all hold", "each HORSE that of the first feeds RULE"
    private static void firstRuleThatHolds() {
        mouthDue("eats 1; eats 2", 0, 1);
        mouthDue("when rank = 4 eats 1; eats 2; eats 3", 0, 2);
        mouthDue("when rank = 5 and mouths = 19 eats 1; when rank = 4 and mouths = 20 eats 2; eats 3", 0, 3);
        mouthDue("feeds 9; eats 2", 0, 2);
        CourtProgress x = withHousehold();
        Texts.ordain(x, 0, "eats 9; when horses = 4 feeds 1; when horses = 3 feeds 2; feeds 3");
        c.due("P15 each horse", x.eats(0, 0, true), 2);
        Texts.ordain(x, 1, "eats 0; eats 5; feeds 0; feeds 5");
        c.due("P15 a SUM of 0 is one", x.eats(0, 1, false), 0);
        c.due("P15 a horse's SUM of 0 is one", x.eats(0, 1, true), 0);
    }

    // "(0 if there is none)"
    private static void nothingIfNone() {
        CourtProgress x = withHousehold();
        c.due("P15 without an ORDINANCE", x.eats(0, 0, false), 0);
        c.due("P15 a horse, without an ORDINANCE", x.eats(0, 0, true), 0);
        Texts.ordain(x, 3, "eats 4");
        c.due("P15 the DAY before", x.eats(0, 2, false), 0);
        c.due("P15 its DAY", x.eats(0, 3, false), 4);
        c.due("P15 without a feeds RULE", x.eats(0, 3, true), 0);
        Texts.ordain(x, 5, "feeds 4");
        c.due("P15 without an eats RULE, though the last one had it", x.eats(0, 5, false), 0);
        c.due("P15 a horse", x.eats(0, 5, true), 4);
        Texts.ordain(x, 7, "when rank = 1 eats 4; when rank = 2 eats 5");
        c.due("P15 if no TEST holds", x.eats(0, 7, false), 0);
        c.due("P16 NEED then", x.need(7), 0);
    }

    // "NAME: rank, mouths, horses (of the HOUSEHOLD), day, mud (of the DAY), feast (1 on a DAY that has one, else 0)"
    private static void nameValues() {
        CourtProgress x = new CourtProgress();
        x.household(9, 99, 99);
        x.household(1, 1, 0);
        x.place(0, 0, 0);
        x.place(0, 0, 0);
        x.mud(199, 199, 4);
        x.feast(199, 1);
        String[] names = {"rank", "mouths", "horses", "day", "mud", "feast"};
        int[] most = {9, 99, 99, 199, 4, 1};
        int[] least = {1, 1, 0, 0, 0, 0};
        for (int i = 0; i < names.length; i++) {
            Texts.ordain(x, 0, "eats " + names[i] + "; feeds 2*" + names[i]);
            c.due("P15 the most " + names[i], x.eats(0, 199, false), most[i]);
            c.due("P15 the most " + names[i] + " for a horse", x.eats(0, 199, true), 2 * most[i]);
            c.due("P15 the least " + names[i], x.eats(1, 0, false), least[i]);
        }
        x.feast(199, -1);
        c.due("P15 feast of a DAY that has none any more", x.eats(0, 199, false), 0);
    }

    // "NONE for others"
    private static void eatsOfOthers() {
        CourtProgress x = withHousehold();
        Texts.ordain(x, 0, "eats 1; feeds 1");
        int[] households = {MIN, -1, 1, 7, 8, MAX};
        for (int h : households) {
            c.due("P15 eats(" + h + ", 0, false)", x.eats(h, 0, false), -1);
            c.due("P15 eats(" + h + ", 0, true)", x.eats(h, 0, true), -1);
            c.due("P15 eats(" + h + ", 200, true)", x.eats(h, 200, true), -1);
        }
        int[] days = {MIN, -1, 200, MAX};
        for (int day : days) {
            c.due("P15 eats(0, " + day + ", false)", x.eats(0, day, false), -1);
            c.due("P15 eats(0, " + day + ", true)", x.eats(0, day, true), -1);
        }
        c.due("P15 eats(0, 0, false)", x.eats(0, 0, false), 1);
        c.due("P15 eats(0, 199, true)", x.eats(0, 199, true), 1);
    }

    // "1,000,000 if it is more"
    private static void needAtMost() {
        CourtProgress x = new CourtProgress();
        x.household(1, 50, 1);
        x.household(1, 50, 0);
        Texts.ordain(x, 0, "eats 200*mouths; feeds 0");
        c.due("P16 a million", x.need(0), 1000000);
        Texts.ordain(x, 0, "eats 200*mouths; feeds 1");
        c.due("P16 a million and one", x.need(0), 1000000);
        Texts.ordain(x, 0, "eats 199*mouths+49; feeds 99");
        c.due("P16 a million less one", x.need(0), 999999);
        CourtProgress y = new CourtProgress();
        for (int h = 0; h < 8; h++) {
            y.household(9, 99, 99);
        }
        Texts.ordain(y, 0, "eats 999*day+999*day+999*day+999*day; feeds 999*day+999*day+999*day+999*day");
        c.due("P16 the most there can be", y.need(199), 1000000);
        c.due("P15 each MOUTH eats more", y.eats(0, 199, false), 795204);
        c.due("P16 none on day 0", y.need(0), 0);
    }

    // "NONE for no DAY"; of no HOUSEHOLDS nothing is needed
    private static void needOfNoDay() {
        CourtProgress x = new CourtProgress();
        Texts.ordain(x, 0, "eats 1; feeds 1");
        c.due("P16 of no HOUSEHOLDS", x.need(0), 0);
        x.household(1, 2, 0);
        int[] none = {MIN, -1, 200, MAX};
        for (int day : none) {
            c.due("P16 need(" + day + ")", x.need(day), -1);
        }
        c.due("P16 need(0) without HORSES", x.need(0), 2);
        c.due("P16 need(199)", x.need(199), 2);
        x.household(1, 1, 5);
        c.due("P16 of all together", x.need(199), 8);
    }
}
