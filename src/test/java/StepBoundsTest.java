/**
 * The boundary cases of promises 23 to 26 and of a STEP and TALLY in the Terms VI: a method for each
 * sentence that names one, with the sentence above it.
 */
public final class StepBoundsTest {
    private static final Checks c = new Checks("StepBoundsTest");
    private static final int MIN = Integer.MIN_VALUE;
    private static final int MAX = Integer.MAX_VALUE;

    public static void main(String[] args) {
        withoutPlace();
        toNone();
        stays();
        noWay();
        longestWay();
        mudOfToday();
        waysOfTwoOnly();
        todayIs199();
        troublesInOrder();
        refusedChangesNothing();
        eatsWhereItWas();
        todaysNeed();
        asFarAsStoreLasts();
        asFarAsOwesLasts();
        bothLast();
        nothingNeeded();
        theMostNeeded();
        todayIsTheNextDay();
        tallyOfAll();
        tallyBeyondAMillion();
        tallyOfEach();
        whatItIs();
        ofNone();
        rooms();
        daysEaten();
        wasBefore();
        wasOfNoPast();
        lackedOfNoPast();
        pastUpToTheLastDay();
        pastStays();
        c.end();
    }

    private static CourtProgress withPlaces(int many) {
        CourtProgress x = new CourtProgress();
        for (int p = 0; p < many; p++) {
            x.place(1000, 1000, 0);
        }
        return x;
    }

    /** Ten are eaten each day; one place with so much. */
    private static CourtProgress eatingTen(int store, int owes) {
        CourtProgress x = new CourtProgress();
        x.household(1, 10, 0);
        Texts.ordain(x, 0, "eats 1");
        x.place(store, owes, 0);
        return x;
    }

    private static void stepDue(CourtProgress x, String what, int place, int lacks) {
        c.due(x, "P23 step(" + place + ") " + what, x.step(place), lacks, 0);
    }

    private static void refusalDue(CourtProgress x, String what, int place, int trouble) {
        c.due(x, "P23 step(" + place + ") " + what, x.step(place), -1, trouble);
    }

    // "1 (also without a PLACE)"
    private static void withoutPlace() {
        CourtProgress x = new CourtProgress();
        int[] any = {MIN, -2, -1, 0, 1, 8, 9, MAX};
        for (int p : any) {
            refusalDue(x, "without a place", p, 1);
        }
        c.due("P31 TODAY", x.count(5), 0);
        x.place(0, 0, 0);
        stepDue(x, "with a place", 0, 0);
    }

    // "to a PLACE"; "NONE: 1"
    private static void toNone() {
        CourtProgress x = withPlaces(3);
        x.way(0, 1, 1);
        x.way(0, 2, 1);
        int[] none = {MIN, -2, -1, 3, 8, 9, MAX};
        for (int p : none) {
            refusalDue(x, "to none", p, 1);
        }
        c.due("P31 TODAY", x.count(5), 0);
        stepDue(x, "to the last one", 2, 0);
        CourtProgress y = withPlaces(9);
        y.way(0, 8, 1);
        refusalDue(y, "beyond nine places", 9, 1);
        stepDue(y, "to the ninth", 8, 0);
        c.due("P31 the PLACE", y.count(6), 8);
    }

    // "(that where it is: it stays)"
    private static void stays() {
        CourtProgress x = withPlaces(2);
        x.mud(0, 199, 4);
        stepDue(x, "stays without any way", 0, 0);
        c.due("P31 the PLACE", x.count(6), 0);
        c.due("P31 TODAY", x.count(5), 1);
        x.way(0, 1, 8);
        stepDue(x, "goes", 1, 0);
        x.way(0, 1, 0);
        stepDue(x, "stays where it came to", 1, 0);
        c.due("P31 the PLACE", x.count(6), 1);
        c.due("P31 TODAY", x.count(5), 3);
        x.feast(3, 0);
        stepDue(x, "stays, whatever feast there is elsewhere", 1, 0);
    }

    // "5 no WAY"
    private static void noWay() {
        CourtProgress x = withPlaces(3);
        x.way(1, 2, 1);
        x.way(0, 2, 1);
        refusalDue(x, "by no way of its own", 1, 5);
        stepDue(x, "by a way", 2, 0);
        stepDue(x, "by the next one", 1, 0);
        refusalDue(x, "back by none", 0, 5);
        x.way(0, 1, 1);
        stepDue(x, "back", 0, 0);
        x.way(1, 0, 0);
        refusalDue(x, "by one that is no more", 1, 5);
    }

    // "or too long": more than 16 HOURS with the MUD of that DAY
    private static void longestWay() {
        int[] longest = {16, 13, 11, 9, 8};
        for (int deep = 0; deep <= 4; deep++) {
            for (int hours = 1; hours <= 48; hours++) {
                CourtProgress x = withPlaces(2);
                x.mud(0, 0, deep);
                x.way(0, 1, hours);
                String what = hours + " hours in mud " + deep;
                boolean goes = hours <= longest[deep];
                c.due(x, "P23 " + what, x.step(1), goes ? 0 : -1, goes ? 0 : 5);
                c.due("P31 the PLACE after " + what, x.count(6), goes ? 1 : 0);
            }
        }
    }

    private static void mudOfToday() {
        CourtProgress x = withPlaces(2);
        x.way(0, 1, 16);
        x.mud(1, 1, 1);
        stepDue(x, "before the mud", 1, 0);
        refusalDue(x, "in the mud", 0, 5);
        stepDue(x, "stays in the mud", 1, 0);
        stepDue(x, "behind the mud", 0, 0);
        x.mud(3, 3, 1);
        refusalDue(x, "in new mud", 1, 5);
        x.mud(3, 3, 0);
        stepDue(x, "when it is no more", 1, 0);
    }

    /** Each two of nine places have a way of their own. */
    private static void waysOfTwoOnly() {
        for (int one = 0; one < 9; one++) {
            CourtProgress x = withPlaces(9);
            int other = (one + 4) % 9;
            x.way(one, other, 16);
            for (int p = 1; p < 9; p++) {
                boolean goes = one == 0 && other == p || other == 0 && one == p;
                if (!goes) {
                    refusalDue(x, "by the way of " + one + " and " + other, p, 5);
                }
            }
            if (one == 0 || other == 0) {
                stepDue(x, "by the way of " + one + " and " + other, one + other, 0);
            }
        }
    }

    // "2 (TODAY is 199)"
    private static void todayIs199() {
        CourtProgress x = withPlaces(2);
        x.way(0, 1, 1);
        for (int day = 0; day < 199; day++) {
            c.due("P31 TODAY", x.count(5), day);
            c.due("P23 step on day " + day, x.step(day % 2 == 0 ? 1 : 0), 0);
        }
        c.due("P31 TODAY", x.count(5), 199);
        refusalDue(x, "stays on day 199", 1, 2);
        refusalDue(x, "goes on day 199", 0, 2);
        c.due("P31 TODAY", x.count(5), 199);
        c.due("P31 the PLACE", x.count(6), 1);
    }

    // "NONE: 1 ..; 5; 2"
    private static void troublesInOrder() {
        CourtProgress x = withPlaces(3);
        x.way(0, 1, 17);
        for (int day = 0; day < 199; day++) {
            x.step(0);
        }
        refusalDue(x, "to none on day 199", 3, 1);
        refusalDue(x, "to -1 on day 199", -1, 1);
        refusalDue(x, "too long on day 199", 1, 5);
        refusalDue(x, "by no way on day 199", 2, 5);
        refusalDue(x, "on day 199", 0, 2);
        x.way(0, 1, 16);
        refusalDue(x, "by a way on day 199", 1, 2);
    }

    private static void refusedChangesNothing() {
        c.changesNothing("P23 a step refused by 1", StepBoundsTest::somewhere, x -> refusalDue(x, "to none", 3, 1));
        c.changesNothing("P23 a step refused by 5", StepBoundsTest::somewhere, x -> refusalDue(x, "by no way", 2, 5));
        c.changesNothing("P23 a step refused by 2", StepBoundsTest::atTheEnd, x -> refusalDue(x, "on day 199", 0, 2));
    }

    private static CourtProgress somewhere() {
        CourtProgress x = eatingTen(15, 100);
        x.place(100, 100, 0);
        x.place(100, 100, 0);
        x.way(0, 1, 1);
        x.step(1);
        x.step(0);
        return x;
    }

    private static CourtProgress atTheEnd() {
        CourtProgress x = eatingTen(1000, 995);
        for (int day = 0; day < 199; day++) {
            x.step(0);
        }
        return x;
    }

    // "the court eats .. of the STORE where it is .. then it goes to the PLACE told"
    private static void eatsWhereItWas() {
        CourtProgress x = eatingTen(100, 200);
        x.place(300, 400, 0);
        x.way(0, 1, 1);
        stepDue(x, "goes", 1, 0);
        aboutDue(x, "where it was", 0, 90, 190, 10, 0, 1);
        aboutDue(x, "where it came to", 1, 300, 400, 0, 0, 0);
        stepDue(x, "stays", 1, 0);
        aboutDue(x, "where it was first", 0, 90, 190, 10, 0, 1);
        aboutDue(x, "where it stays", 1, 290, 390, 10, 0, 1);
        CourtProgress y = eatingTen(0, 0);
        y.place(1000, 1000, 0);
        y.way(0, 1, 1);
        stepDue(y, "lacks where it was", 1, 10);
    }

    private static void aboutDue(CourtProgress x, String what, int place, int... facts) {
        for (int i = 0; i < facts.length; i++) {
            c.due("P24 about(" + place + ", " + i + ") " + what, x.about(place, i), facts[i]);
        }
    }

    // "TODAY's NEED"
    private static void todaysNeed() {
        CourtProgress x = new CourtProgress();
        x.household(1, 1, 1);
        x.place(1000, 1000, 0);
        Texts.ordain(x, 0, "eats day; feeds 10*mud + 100*feast");
        x.mud(1, 1, 4);
        x.feast(2, 0);
        int[] left = {1000, 1000, 959, 857, 854};
        for (int day = 0; day < left.length; day++) {
            c.due("P24 STORE on day " + day, x.about(0, 0), left[day]);
            c.due("P24 OWES on day " + day, x.about(0, 1), left[day]);
            stepDue(x, "on day " + day, 0, 0);
        }
        Texts.ordain(x, 5, "eats 50");
        stepDue(x, "by an ordinance from day 5 on", 0, 0);
        c.due("P24 STORE", x.about(0, 0), 800);
    }

    // "both STORE and what it OWES grow less by it, as far as both last: what lacks is LACKED"
    private static void asFarAsStoreLasts() {
        for (int store = 0; store <= 12; store++) {
            CourtProgress x = eatingTen(store, 1000);
            int eaten = Math.min(store, 10);
            stepDue(x, "of a store of " + store, 0, 10 - eaten);
            aboutDue(x, "of a store of " + store, 0, store - eaten, 1000 - eaten, eaten, 0, 1);
            c.due("P26 lacked(0)", x.lacked(0), 10 - eaten);
        }
    }

    private static void asFarAsOwesLasts() {
        for (int owes = 0; owes <= 12; owes++) {
            CourtProgress x = eatingTen(1000, owes);
            int eaten = Math.min(owes, 10);
            stepDue(x, "of " + owes + " owed", 0, 10 - eaten);
            aboutDue(x, "of " + owes + " owed", 0, 1000 - eaten, owes - eaten, eaten, 0, 1);
            c.due("P26 lacked(0)", x.lacked(0), 10 - eaten);
        }
    }

    private static void bothLast() {
        CourtProgress x = eatingTen(7, 4);
        stepDue(x, "of 7 and 4 owed", 0, 6);
        aboutDue(x, "of 7 and 4 owed", 0, 3, 0, 4, 0, 1);
        stepDue(x, "of 3 and none owed", 0, 10);
        aboutDue(x, "of 3 and none owed", 0, 3, 0, 4, 0, 2);
        x.bring(0, 0, 100);
        stepDue(x, "of 3 and 100 owed", 0, 7);
        aboutDue(x, "of 3 and 100 owed", 0, 0, 97, 7, 0, 3);
        x.bring(0, 10, 0);
        stepDue(x, "of 10 and 97 owed", 0, 0);
        aboutDue(x, "of 10 and 97 owed", 0, 0, 87, 17, 0, 4);
    }

    private static void nothingNeeded() {
        CourtProgress x = new CourtProgress();
        x.place(0, 0, 0);
        stepDue(x, "nobody eats nothing", 0, 0);
        x.household(1, 99, 99);
        stepDue(x, "without an ordinance", 0, 0);
        Texts.ordain(x, 0, "eats 0; feeds 0");
        stepDue(x, "by one of nothing", 0, 0);
        aboutDue(x, "of nothing", 0, 0, 0, 0, 0, 3);
        c.due("P26 lacked(2)", x.lacked(2), 0);
    }

    private static void theMostNeeded() {
        CourtProgress x = new CourtProgress();
        for (int h = 0; h < 8; h++) {
            x.household(9, 99, 99);
        }
        x.place(1000000, 999999, 0);
        Texts.ordain(x, 0, "eats 999*mouths; feeds 999*mouths");
        stepDue(x, "a million of a million less one", 0, 1);
        aboutDue(x, "after it", 0, 1, 0, 999999, 0, 1);
        stepDue(x, "a million of nothing owed", 0, 1000000);
        c.due("P26 lacked(1)", x.lacked(1), 1000000);
        x.bring(0, 999999, 1000000);
        stepDue(x, "a million of a million", 0, 0);
        aboutDue(x, "after all", 0, 0, 0, 1999999, 0, 3);
    }

    // "TODAY is the next DAY"; "only grows"
    private static void todayIsTheNextDay() {
        CourtProgress x = withPlaces(2);
        x.way(0, 1, 1);
        for (int day = 1; day <= 5; day++) {
            x.step(day % 2);
            c.due("P31 TODAY", x.count(5), day);
        }
        x.step(2);
        x.way(0, 1, 0);
        x.step(0);
        c.due("P31 TODAY after refused ones", x.count(5), 5);
        x.route(9);
        x.lasts();
        c.due("P31 TODAY after a route and lasts()", x.count(5), 5);
    }

    // "TALLY of a PLACE: all that was taken of it"
    private static void tallyOfAll() {
        CourtProgress x = eatingTen(25, 100);
        int[] tally = {0, 10, 20, 25, 25};
        for (int day = 0; day < tally.length; day++) {
            c.due("P24 TALLY on day " + day, x.about(0, 2), tally[day]);
            x.step(0);
        }
        x.bring(0, 100, -75);
        c.due("P24 TALLY is not less by what it owes less", x.about(0, 2), 25);
        x.step(0);
        c.due("P24 nothing owed, nothing taken", x.about(0, 2), 25);
        x.bring(0, -100, 5);
        x.bring(0, 100, 0);
        c.due("P24 what is brought is not taken", x.about(0, 2), 25);
        x.step(0);
        c.due("P24 five owed, five taken", x.about(0, 2), 30);
    }

    private static void tallyBeyondAMillion() {
        CourtProgress x = new CourtProgress();
        for (int h = 0; h < 8; h++) {
            x.household(9, 99, 99);
        }
        x.place(1000000, 1000000, 0);
        Texts.ordain(x, 0, "eats 999*mouths");
        for (int day = 1; day <= 120; day++) {
            x.step(0);
            x.bring(0, 1000000, 1000000);
        }
        c.due("P24 TALLY of 120 days", x.about(0, 2), 120000000);
        c.due("P24 STORE", x.about(0, 0), 1000000);
    }

    private static void tallyOfEach() {
        CourtProgress x = eatingTen(100, 100);
        for (int p = 1; p < 9; p++) {
            x.place(100, 100, 0);
            x.way(p - 1, p, 1);
        }
        for (int p = 1; p < 9; p++) {
            x.step(p - 1);
            x.step(p);
        }
        for (int p = 0; p < 9; p++) {
            aboutDue(x, "of each", p, p < 8 ? 80 : 100, p < 8 ? 80 : 100, p < 8 ? 20 : 0, 0, p < 8 ? 2 : 0);
        }
    }

    // "what 0 STORE, 1 OWES, 2 TALLY, 3 ROOMS, 4 DAYS on which the court ate there; NONE."
    private static void whatItIs() {
        CourtProgress x = eatingTen(1000000, 999990);
        x.room(0, 1, 0, 0);
        x.room(0, 1, 0, 0);
        x.step(0);
        x.step(0);
        x.step(0);
        aboutDue(x, "of all five", 0, 999970, 999960, 30, 2, 3);
        int[] others = {MIN, -2, -1, 5, 6, 9, MAX};
        for (int what : others) {
            c.due("P24 about(0, " + what + ")", x.about(0, what), -1);
        }
    }

    private static void ofNone() {
        CourtProgress x = withPlaces(2);
        int[] none = {MIN, -2, -1, 2, 8, 9, MAX};
        for (int p : none) {
            for (int what = -1; what <= 5; what++) {
                c.due("P24 about(" + p + ", " + what + ")", x.about(p, what), -1);
            }
        }
        c.due("P24 about(1, 0)", x.about(1, 0), 1000);
        c.due("P24 about(1, 5)", x.about(1, 5), -1);
    }

    private static void rooms() {
        CourtProgress x = withPlaces(2);
        for (int r = 0; r < 10; r++) {
            c.due("P24 ROOMS", x.about(1, 3), r);
            x.room(1, 1, 0, 0);
        }
        x.room(1, 1, 0, 0);
        c.due("P24 ROOMS when there is no room for more", x.about(1, 3), 10);
        x.room(0, 0, 0, 0);
        c.due("P24 ROOMS after a wrong one", x.about(0, 3), 0);
    }

    // "4 DAYS on which the court ate there"
    private static void daysEaten() {
        CourtProgress x = eatingTen(15, 15);
        x.place(100, 100, 0);
        x.way(0, 1, 1);
        c.due("P24 none at first", x.about(0, 4), 0);
        x.step(0);
        x.step(1);
        x.step(1);
        x.step(0);
        c.due("P24 DAYS at 0", x.about(0, 4), 2);
        c.due("P24 DAYS at 1", x.about(1, 4), 2);
        x.step(5);
        c.due("P24 a refused step is none", x.about(0, 4), 2);
        x.step(0);
        c.due("P24 a DAY on which all was LACKED is one", x.about(0, 4), 3);
    }

    // "Where the court was on a DAY that is past"
    private static void wasBefore() {
        CourtProgress x = withPlaces(9);
        x.way(0, 8, 1);
        x.way(8, 3, 1);
        int[] goes = {8, 8, 3, 3, 8, 0, 0};
        int[] was = {0, 8, 8, 3, 3, 8, 0};
        for (int day = 0; day < goes.length; day++) {
            x.step(goes[day]);
        }
        for (int day = 0; day < was.length; day++) {
            c.due("P25 was(" + day + ")", x.was(day), was[day]);
        }
    }

    // "NONE."
    private static void wasOfNoPast() {
        CourtProgress x = withPlaces(1);
        int[] none = {MIN, -200, -1, 0, 1, 198, 199, 200, MAX};
        for (int day : none) {
            c.due("P25 was(" + day + ") on day 0", x.was(day), -1);
        }
        x.step(0);
        c.due("P25 was(0) on day 1", x.was(0), 0);
        c.due("P25 was(-1) on day 1", x.was(-1), -1);
        c.due("P25 TODAY is not past", x.was(1), -1);
        c.due("P25 nor is tomorrow", x.was(2), -1);
        c.due("P25 nor is day 199", x.was(199), -1);
    }

    private static void lackedOfNoPast() {
        CourtProgress x = eatingTen(15, 100);
        int[] none = {MIN, -200, -1, 0, 1, 198, 199, 200, MAX};
        for (int day : none) {
            c.due("P26 lacked(" + day + ") on day 0", x.lacked(day), -1);
        }
        x.step(0);
        x.step(0);
        c.due("P26 nothing on day 0", x.lacked(0), 0);
        c.due("P26 five on day 1", x.lacked(1), 5);
        c.due("P26 TODAY is not past", x.lacked(2), -1);
        c.due("P26 nor is tomorrow", x.lacked(3), -1);
        c.due("P26 no DAY is -1", x.lacked(-1), -1);
    }

    private static void pastUpToTheLastDay() {
        CourtProgress x = eatingTen(1000, 1985);
        x.bring(0, 990, 0);
        for (int day = 0; day < 199; day++) {
            x.step(0);
        }
        x.step(0);
        c.due("P25 was(0)", x.was(0), 0);
        c.due("P25 was(198)", x.was(198), 0);
        c.due("P25 was(199)", x.was(199), -1);
        c.due("P25 was(200)", x.was(200), -1);
        c.due("P26 lacked(197)", x.lacked(197), 0);
        c.due("P26 lacked(198)", x.lacked(198), 5);
        c.due("P26 lacked(199)", x.lacked(199), -1);
        c.due("P26 lacked(200)", x.lacked(200), -1);
        c.due("P24 DAYS", x.about(0, 4), 199);
    }

    /** What is past stays as it was, whatever comes then. */
    private static void pastStays() {
        CourtProgress x = eatingTen(5, 100);
        x.place(0, 0, 0);
        x.way(0, 1, 1);
        x.step(0);
        x.bring(0, 100, 0);
        Texts.ordain(x, 0, "eats 0");
        x.mud(0, 0, 4);
        x.feast(0, 1);
        x.step(1);
        c.due("P25 was(0)", x.was(0), 0);
        c.due("P26 lacked(0)", x.lacked(0), 5);
        c.due("P16 though the NEED of then would be", x.need(0), 0);
    }
}
