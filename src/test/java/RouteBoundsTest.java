/**
 * The boundary cases of promises 20 to 22 and of the Terms V: a method for each sentence that
 * names one, with the sentence above it.
 */
public final class RouteBoundsTest {
    private static final Checks c = new Checks("RouteBoundsTest");
    private static final int MIN = Integer.MIN_VALUE;
    private static final int MAX = Integer.MAX_VALUE;

    public static void main(String[] args) {
        lastDays();
        lastDaysLater();
        lastDaysAtTheEnd();
        withoutPlace();
        todayOnly();
        todaysFeast();
        oneRow();
        firstNotAgain();
        noneTwice();
        sixteenHours();
        mudOfTheFirstDay();
        mudOfEachDay();
        noWay();
        feastsOnTheWay();
        feastsElsewhere();
        needsByStore();
        needsByOwes();
        needsOfNothing();
        needsOfTheLastDay();
        needsAtMost();
        fewestHours();
        mostHours();
        lesserPlaces();
        atOtherDays();
        atOfTheLatest();
        refusedChangesNothing();
        lastsWithoutPlace();
        lastsByStoreAndOwes();
        lastsNothing();
        lastsUpToTheEnd();
        lastsGaps();
        lastsWhereItIs();
        c.end();
    }

    private static CourtProgress withPlaces(int many) {
        CourtProgress x = new CourtProgress();
        for (int p = 0; p < many; p++) {
            x.place(1000, 1000, 0);
        }
        return x;
    }

    /** Ten are eaten each day. */
    private static CourtProgress eatingTen(int... stores) {
        CourtProgress x = new CourtProgress();
        x.household(1, 10, 0);
        Texts.ordain(x, 0, "eats 1");
        for (int store : stores) {
            x.place(store, 1000, 0);
        }
        return x;
    }

    private static void routeDue(CourtProgress x, String what, int last, int hours) {
        c.due(x, "P20 route(" + last + ") " + what, x.route(last), hours, hours < 0 ? 6 : 0);
    }

    private static void stopsDue(CourtProgress x, String what, int first, int... stops) {
        c.due("P21 at(" + (first - 1) + ") " + what, x.at(first - 1), -1);
        for (int i = 0; i < stops.length; i++) {
            c.due("P21 at(" + (first + i) + ") " + what, x.at(first + i), stops[i]);
        }
        c.due("P21 at(" + (first + stops.length) + ") " + what, x.at(first + stops.length), -1);
    }

    // "up to a DAY (TODAY .. TODAY + 20)"; "NONE: 2"
    private static void lastDays() {
        CourtProgress x = withPlaces(1);
        int[] wrong = {MIN, -200, -1, 21, 22, 199, 200, MAX};
        for (int last : wrong) {
            c.due(x, "P20 route(" + last + ")", x.route(last), -1, 2);
        }
        for (int last = 0; last <= 20; last++) {
            routeDue(x, "from day 0", last, 0);
            c.due("P21 at(" + last + ")", x.at(last), 0);
            c.due("P21 at(" + (last + 1) + ")", x.at(last + 1), -1);
        }
    }

    private static void lastDaysLater() {
        CourtProgress x = withPlaces(1);
        for (int day = 0; day < 50; day++) {
            x.step(0);
        }
        int[] wrong = {MIN, -1, 0, 48, 49, 71, 72, MAX};
        for (int last : wrong) {
            c.due(x, "P20 route(" + last + ") on day 50", x.route(last), -1, 2);
        }
        routeDue(x, "on day 50", 70, 0);
        c.due("P21 at(49)", x.at(49), -1);
        c.due("P21 at(70)", x.at(70), 0);
        c.due("P21 at(71)", x.at(71), -1);
        routeDue(x, "on day 50", 50, 0);
        stopsDue(x, "on day 50", 50, 0);
    }

    /** The last day is a DAY: none is beyond 199. */
    private static void lastDaysAtTheEnd() {
        CourtProgress x = withPlaces(1);
        for (int day = 0; day < 179; day++) {
            x.step(0);
        }
        routeDue(x, "on day 179", 199, 0);
        c.due("P21 at(199)", x.at(199), 0);
        c.due("P21 at(200)", x.at(200), -1);
        c.due(x, "P20 route(200) on day 179", x.route(200), -1, 2);
        x.step(0);
        c.due(x, "P20 route(200) on day 180", x.route(200), -1, 2);
        routeDue(x, "on day 180", 199, 0);
        for (int day = 180; day < 199; day++) {
            x.step(0);
        }
        routeDue(x, "on day 199", 199, 0);
        stopsDue(x, "on day 199", 199, 0);
        c.due(x, "P20 route(198) on day 199", x.route(198), -1, 2);
        c.due(x, "P20 route(200) on day 199", x.route(200), -1, 2);
        c.due(x, "P20 route(219) on day 199", x.route(219), -1, 2);
    }

    // "2; 6 (none, or no PLACE)"
    private static void withoutPlace() {
        CourtProgress x = new CourtProgress();
        routeDue(x, "without a place", 0, -1);
        routeDue(x, "without a place", 20, -1);
        c.due(x, "P20 route(21) without a place", x.route(21), -1, 2);
        c.due(x, "P20 route(-1) without a place", x.route(-1), -1, 2);
        c.due("P21 at(0)", x.at(0), -1);
        x.place(0, 0, 0);
        routeDue(x, "with a place", 20, 0);
    }

    // "TODAY's is the one where the court is"
    private static void todayOnly() {
        CourtProgress x = withPlaces(9);
        x.way(0, 8, 5);
        x.way(8, 3, 5);
        routeDue(x, "today alone", 0, 0);
        stopsDue(x, "today alone", 0, 0);
        x.step(8);
        routeDue(x, "today alone at 8", 1, 0);
        stopsDue(x, "today alone at 8", 1, 8);
        x.step(3);
        routeDue(x, "at 3", 4, 0);
        stopsDue(x, "at 3", 2, 3, 3, 3);
    }

    // "on a FEAST's DAY it is at its PLACE": TODAY, too
    private static void todaysFeast() {
        CourtProgress x = withPlaces(2);
        x.way(0, 1, 5);
        x.feast(0, 1);
        routeDue(x, "a feast today elsewhere", 0, -1);
        routeDue(x, "a feast today elsewhere", 5, -1);
        x.feast(0, 0);
        routeDue(x, "a feast today here", 0, 0);
        x.feast(0, 1);
        x.step(1);
        routeDue(x, "a feast that is past does not count", 5, 0);
    }

    // "DAYS at a PLACE are one row"
    private static void oneRow() {
        CourtProgress x = withPlaces(3);
        x.way(0, 1, 1);
        x.way(1, 2, 1);
        x.feast(1, 1);
        x.feast(3, 1);
        routeDue(x, "two feasts at 1 with a day between", 3, 1);
        stopsDue(x, "two feasts at 1", 0, 0, 1, 1, 1);
        x.feast(2, 2);
        routeDue(x, "with one elsewhere between", 3, -1);
        routeDue(x, "up to that one", 2, 2);
    }

    // "but the first one not at all again"
    private static void firstNotAgain() {
        CourtProgress x = withPlaces(2);
        x.way(0, 1, 1);
        x.feast(1, 1);
        x.feast(2, 0);
        routeDue(x, "back to the first", 2, -1);
        routeDue(x, "before it", 1, 1);
        x.feast(2, -1);
        x.feast(20, 0);
        routeDue(x, "back to the first on the last day", 20, -1);
        x.feast(1, 0);
        routeDue(x, "not away from it", 20, 0);
        x.step(0);
        x.step(1);
        routeDue(x, "it may be come to when it is not the first", 20, 1);
        x.feast(3, 0);
        x.feast(20, 1);
        routeDue(x, "but 1 is the first one then", 20, -1);
    }

    // "none is come to twice"
    private static void noneTwice() {
        CourtProgress x = withPlaces(4);
        x.way(0, 1, 1);
        x.way(1, 2, 1);
        x.way(2, 3, 1);
        x.feast(2, 1);
        x.feast(4, 2);
        x.feast(6, 1);
        routeDue(x, "1, 2 and 1 again", 6, -1);
        routeDue(x, "1 and 2", 5, 2);
        x.feast(6, 3);
        routeDue(x, "1, 2 and 3", 6, 3);
        // 3 is met by 2 alone: it can't be passed on the way to 2 again.
        x.feast(4, 3);
        x.feast(6, 2);
        routeDue(x, "1, 3 by 2, then 2", 6, -1);
        x.way(1, 3, 16);
        routeDue(x, "1, 3 by its own way, then 2", 6, 18);
    }

    // "a WAY, of no more than 16 HOURS"
    private static void sixteenHours() {
        for (int hours = 15; hours <= 18; hours++) {
            CourtProgress x = withPlaces(2);
            x.way(0, 1, hours);
            x.feast(1, 1);
            routeDue(x, "by a way of " + hours, 1, hours <= 16 ? hours : -1);
        }
    }

    // "with the MUD of that first DAY"
    private static void mudOfTheFirstDay() {
        CourtProgress x = withPlaces(2);
        x.way(0, 1, 16);
        x.feast(2, 1);
        x.mud(2, 2, 4);
        routeDue(x, "mud on the day it comes", 2, 16);
        stopsDue(x, "the lesser place as long as it can", 0, 0, 0, 1);
        x.mud(1, 1, 1);
        routeDue(x, "mud on the last day it can leave", 2, 16);
        stopsDue(x, "it leaves before", 0, 0, 1, 1);
        x.mud(0, 0, 1);
        routeDue(x, "mud on both", 2, -1);
        x.way(0, 1, 13);
        routeDue(x, "mud on both, a shorter way", 2, 16);
        x.mud(0, 0, 0);
        routeDue(x, "fewer hours without mud", 2, 13);
        stopsDue(x, "fewer hours without mud", 0, 0, 1, 1);
    }

    private static void mudOfEachDay() {
        for (int dry = 0; dry < 20; dry++) {
            CourtProgress x = withPlaces(2);
            x.way(0, 1, 8);
            x.mud(0, 19, 4);
            x.mud(dry, dry, 3);
            x.feast(20, 1);
            routeDue(x, "less mud on day " + dry, 20, 14);
            c.due("P21 it stays up to day " + dry, x.at(dry), 0);
            c.due("P21 and goes then", x.at(dry + 1), 1);
        }
    }

    private static void noWay() {
        CourtProgress x = withPlaces(9);
        x.feast(20, 8);
        routeDue(x, "without ways", 20, -1);
        for (int p = 0; p < 8; p++) {
            x.way(p, p + 1, 16);
        }
        routeDue(x, "by eight ways", 20, 128);
        x.way(4, 5, 0);
        routeDue(x, "one is no more", 20, -1);
        x.way(5, 4, 48);
        routeDue(x, "it is too long", 20, -1);
    }

    private static void feastsOnTheWay() {
        CourtProgress x = withPlaces(9);
        for (int p = 0; p < 8; p++) {
            x.way(p, p + 1, 1 + p);
            x.feast(p + 1, p + 1);
        }
        routeDue(x, "a feast each day", 8, 36);
        stopsDue(x, "a feast each day", 0, 0, 1, 2, 3, 4, 5, 6, 7, 8);
        routeDue(x, "and days behind them", 20, 36);
        x.feast(8, -1);
        x.feast(7, 8);
        routeDue(x, "a day too early", 8, -1);
        routeDue(x, "before it", 6, 21);
    }

    /** Feasts behind the last day do not count. */
    private static void feastsElsewhere() {
        CourtProgress x = withPlaces(2);
        x.feast(6, 1);
        x.feast(199, 1);
        routeDue(x, "up to the day before a feast", 5, 0);
        routeDue(x, "up to a feast without a way", 6, -1);
        routeDue(x, "beyond it", 7, -1);
    }

    // "the NEEDS of a row's DAYS together are no more than the PLACE's STORE"
    private static void needsByStore() {
        CourtProgress x = eatingTen(30, 20);
        x.way(0, 1, 7);
        routeDue(x, "three days of 30", 2, 0);
        routeDue(x, "a fourth", 3, 7);
        stopsDue(x, "a fourth", 0, 0, 0, 0, 1);
        routeDue(x, "a fifth", 4, 7);
        routeDue(x, "a sixth", 5, -1);
        x.bring(0, -1, 0);
        routeDue(x, "29 are two days", 2, 7);
        stopsDue(x, "29 are two days", 0, 0, 0, 1);
        routeDue(x, "and two of 20", 3, 7);
        routeDue(x, "a fifth", 4, -1);
        x.bring(0, -20, 0);
        routeDue(x, "9 are none", 0, -1);
    }

    // "nor than what it OWES"
    private static void needsByOwes() {
        CourtProgress x = eatingTen(1000, 1000);
        x.way(0, 1, 7);
        x.bring(0, 0, -970);
        x.bring(1, 0, -981);
        routeDue(x, "three days of 30 owed", 2, 0);
        routeDue(x, "a fourth", 3, 7);
        routeDue(x, "a fifth of 19 owed", 4, -1);
        x.bring(1, 0, 1);
        routeDue(x, "a fifth of 20 owed", 4, 7);
        x.bring(0, 0, -21);
        routeDue(x, "9 owed are none", 0, -1);
    }

    private static void needsOfNothing() {
        CourtProgress x = new CourtProgress();
        x.place(0, 0, 0);
        x.place(0, 0, 0);
        x.way(0, 1, 3);
        x.feast(9, 1);
        routeDue(x, "nothing needed of nothing", 20, 3);
        stopsDue(x, "nothing needed of nothing", 0, 0, 0, 0, 0, 0, 0, 0, 0, 0, 1, 1, 1, 1, 1, 1, 1, 1, 1, 1, 1, 1);
    }

    /** The last day is eaten, too; TODAY as well. */
    private static void needsOfTheLastDay() {
        CourtProgress x = eatingTen(10, 10, 10);
        x.way(0, 1, 1);
        x.way(1, 2, 1);
        routeDue(x, "a day at each", 2, 2);
        stopsDue(x, "a day at each", 0, 0, 1, 2);
        x.bring(2, -1, 0);
        routeDue(x, "not enough on the last day", 2, -1);
        routeDue(x, "before it", 1, 1);
        x.bring(2, 1, 0);
        x.bring(0, -1, 0);
        routeDue(x, "not enough today", 2, -1);
        Texts.ordain(x, 0, "when day > 0 eats 1; eats 0");
        routeDue(x, "nothing needed today", 2, 2);
        Texts.ordain(x, 2, "eats 2");
        routeDue(x, "twice as much on the last day", 2, -1);
        x.bring(2, 10, 0);
        routeDue(x, "twice as much there", 2, 2);
    }

    private static void needsAtMost() {
        CourtProgress x = new CourtProgress();
        x.place(1000000, 1000000, 0);
        x.place(1000000, 999999, 0);
        x.way(0, 1, 1);
        for (int h = 0; h < 8; h++) {
            x.household(9, 99, 99);
        }
        Texts.ordain(x, 0, "eats 999*mouths; feeds 999*mouths");
        routeDue(x, "a million today", 0, 0);
        routeDue(x, "a million tomorrow", 1, -1);
        x.bring(1, 0, 1);
        routeDue(x, "a million tomorrow", 1, 1);
        routeDue(x, "21 millions", 20, -1);
    }

    // "The fewest HOURS of all WAYS together"
    private static void fewestHours() {
        CourtProgress x = withPlaces(4);
        x.way(0, 3, 16);
        x.way(0, 1, 5);
        x.way(1, 2, 5);
        x.way(2, 3, 5);
        x.feast(3, 3);
        routeDue(x, "three ways of 15", 3, 15);
        stopsDue(x, "three ways of 15", 0, 0, 1, 2, 3);
        x.feast(3, -1);
        x.feast(2, 3);
        routeDue(x, "no time for three", 2, 16);
        stopsDue(x, "no time for three", 0, 0, 0, 3);
        x.feast(2, -1);
        x.feast(3, 3);
        x.way(2, 3, 6);
        routeDue(x, "three ways of 16", 3, 16);
        stopsDue(x, "the lesser place first", 0, 0, 0, 0, 3);
    }

    private static void mostHours() {
        CourtProgress x = new CourtProgress();
        x.household(1, 1, 0);
        Texts.ordain(x, 0, "eats 1");
        for (int p = 0; p < 9; p++) {
            x.place(1, 1, 0);
            for (int q = 0; q < p; q++) {
                x.way(p, q, 16);
            }
        }
        routeDue(x, "a day at each of nine", 8, 128);
        stopsDue(x, "in their order", 0, 0, 1, 2, 3, 4, 5, 6, 7, 8);
        routeDue(x, "a tenth day", 9, -1);
        x.bring(8, 11, 11);
        routeDue(x, "as long as the last one lasts", 19, 128);
        routeDue(x, "a day more", 20, -1);
    }

    // "of as few that with the lesser PLACE on the first DAY on which they differ"
    private static void lesserPlaces() {
        CourtProgress x = withPlaces(4);
        x.way(1, 2, 2);
        x.way(1, 0, 2);
        x.way(0, 3, 2);
        x.way(2, 3, 2);
        x.way(0, 2, 2);
        x.step(0);
        x.step(2);
        // At 2 now, on day 2.
        x.feast(4, 3);
        routeDue(x, "straight to 3", 4, 2);
        stopsDue(x, "2 is less than 3", 2, 2, 2, 3);
        x.way(2, 3, 4);
        routeDue(x, "by 0, or straight", 4, 4);
        stopsDue(x, "0 is less than 2", 2, 2, 0, 3);
        x.way(2, 0, 0);
        routeDue(x, "straight alone", 4, 4);
        stopsDue(x, "straight alone", 2, 2, 2, 3);
        x.feast(5, 3);
        x.feast(4, -1);
        x.way(2, 3, 6);
        routeDue(x, "by 1 and 0, or straight", 5, 6);
        stopsDue(x, "1 is less than 2", 2, 2, 1, 0, 3);
    }

    // "The PLACE of a DAY ..; NONE."
    private static void atOtherDays() {
        CourtProgress x = withPlaces(1);
        int[] any = {MIN, -200, -2, -1, 0, 1, 20, 199, 200, MAX};
        for (int day : any) {
            c.due("P21 at(" + day + ") before any route()", x.at(day), -1);
        }
        x.route(20);
        int[] none = {MIN, -200, -2, -1, 21, 22, 199, 200, MAX};
        for (int day : none) {
            c.due("P21 at(" + day + ")", x.at(day), -1);
        }
        c.due("P21 at(0)", x.at(0), 0);
        c.due("P21 at(20)", x.at(20), 0);
        for (int day = 0; day < 100; day++) {
            x.step(0);
        }
        c.due("P21 a DAY of the route that is past", x.at(20), 0);
        x.route(102);
        c.due("P21 no DAY of the latest route", x.at(20), -1);
        stopsDue(x, "of three days", 100, 0, 0, 0);
        for (int day : any) {
            c.due("P21 at(" + day + ") later", x.at(day), -1);
        }
    }

    // "in the latest route() that told a number"
    private static void atOfTheLatest() {
        CourtProgress x = withPlaces(2);
        x.way(0, 1, 3);
        x.feast(2, 1);
        c.due(x, "P20 route(21)", x.route(21), -1, 2);
        c.due("P21 after one refused alone", x.at(0), -1);
        x.route(3);
        stopsDue(x, "of route(3)", 0, 0, 0, 1, 1);
        x.route(21);
        stopsDue(x, "after one refused by 2", 0, 0, 0, 1, 1);
        x.way(0, 1, 0);
        routeDue(x, "no way", 2, -1);
        stopsDue(x, "after one refused by 6", 0, 0, 0, 1, 1);
        x.feast(2, -1);
        stopsDue(x, "after other calls", 0, 0, 0, 1, 1);
        x.step(0);
        stopsDue(x, "after a step", 0, 0, 0, 1, 1);
        x.route(2);
        stopsDue(x, "of a later one", 1, 0, 0);
    }

    private static void refusedChangesNothing() {
        c.changesNothing("P20 a route refused by 2", RouteBoundsTest::routed, x -> c.due(x, "P20 route(21)", x.route(21), -1, 2));
        c.changesNothing("P20 a route refused by 6", RouteBoundsTest::routed, x -> routeDue(x, "too long", 20, -1));
        c.changesNothing("P20 the same route again", RouteBoundsTest::routed, x -> routeDue(x, "again", 3, 3));
        c.changesNothing("P22 lasts", RouteBoundsTest::routed, x -> c.due(x, "P22 lasts()", x.lasts(), 10, 0));
    }

    private static CourtProgress routed() {
        CourtProgress x = eatingTen(100, 100);
        x.way(0, 1, 3);
        x.feast(2, 1);
        x.route(3);
        return x;
    }

    // "NONE (6) without a PLACE"
    private static void lastsWithoutPlace() {
        CourtProgress x = new CourtProgress();
        c.due(x, "P22 lasts() without a place", x.lasts(), -1, 6);
        x.household(1, 1, 1);
        c.due(x, "P22 lasts() without a place still", x.lasts(), -1, 6);
        x.place(0, 0, 0);
        c.due(x, "P22 lasts() with a place", x.lasts(), 200, 0);
    }

    // "until something would be LACKED"
    private static void lastsByStoreAndOwes() {
        for (int store = 0; store <= 31; store++) {
            CourtProgress x = eatingTen(store);
            c.due(x, "P22 lasts() of a store of " + store, x.lasts(), store / 10, 0);
            CourtProgress y = eatingTen(1000);
            y.bring(0, 0, store - 1000);
            c.due(y, "P22 lasts() of " + store + " owed", y.lasts(), store / 10, 0);
        }
    }

    private static void lastsNothing() {
        CourtProgress x = eatingTen(9);
        c.due(x, "P22 not even today", x.lasts(), 0, 0);
        x.bring(0, 1, 0);
        c.due(x, "P22 today", x.lasts(), 1, 0);
        x.step(0);
        c.due(x, "P22 not the next day", x.lasts(), 0, 0);
        Texts.ordain(x, 0, "eats 0");
        c.due(x, "P22 nothing is needed of nothing", x.lasts(), 199, 0);
    }

    // "(of DAYS up to 199)"
    private static void lastsUpToTheEnd() {
        CourtProgress x = eatingTen(0);
        x.bring(0, 2000, 1000);
        c.due(x, "P22 all days", x.lasts(), 200, 0);
        x.bring(0, 998000, 998000);
        c.due(x, "P22 no more than all days", x.lasts(), 200, 0);
        x.bring(0, -998001, -998001);
        c.due(x, "P22 one less than all days", x.lasts(), 199, 0);
        CourtProgress y = eatingTen(1000);
        y.bring(0, 0, 1000);
        for (int day = 0; day < 199; day++) {
            c.due("P22 lasts() and steps", y.lasts(), 100 - day < 0 ? 0 : 100 - day);
            y.step(0);
        }
        c.due(y, "P22 nothing on the last day", y.lasts(), 0, 0);
        y.bring(0, 10, 0);
        c.due(y, "P22 the last day", y.lasts(), 1, 0);
        y.bring(0, 900, 0);
        c.due(y, "P22 no day behind it", y.lasts(), 1, 0);
    }

    /** A day without need lasts, even if the store is empty; one with need ends it, whatever comes behind it. */
    private static void lastsGaps() {
        CourtProgress x = eatingTen(10);
        Texts.ordain(x, 1, "eats 0");
        Texts.ordain(x, 5, "eats 1");
        c.due(x, "P22 a day, then days without need", x.lasts(), 5, 0);
        Texts.ordain(x, 6, "eats 0");
        c.due(x, "P22 the first day that lacks ends it", x.lasts(), 5, 0);
        x.bring(0, 10, 0);
        c.due(x, "P22 but if that day lasts", x.lasts(), 200, 0);
        Texts.ordain(x, 199, "eats 1");
        c.due(x, "P22 all but the last day", x.lasts(), 199, 0);
        Texts.ordain(x, 3, "eats 99");
        Texts.ordain(x, 4, "eats 0");
        c.due(x, "P22 a great need in between", x.lasts(), 3, 0);
    }

    // "where it is"
    private static void lastsWhereItIs() {
        CourtProgress x = eatingTen(100, 30);
        x.way(0, 1, 16);
        c.due(x, "P22 at 0", x.lasts(), 10, 0);
        x.feast(3, 1);
        c.due(x, "P22 whatever feasts there are", x.lasts(), 10, 0);
        x.step(1);
        c.due(x, "P22 at 1", x.lasts(), 3, 0);
        x.step(0);
        c.due(x, "P22 at 0 again", x.lasts(), 9, 0);
    }
}
