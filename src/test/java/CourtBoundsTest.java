/**
 * The boundary cases of promises 1 to 9 and of the Terms I and II: a method for each sentence that
 * names one, with the sentence above it.
 */
public final class CourtBoundsTest {
    private static final Checks c = new Checks("CourtBoundsTest");
    private static final int MIN = Integer.MIN_VALUE;
    private static final int MAX = Integer.MAX_VALUE;

    public static void main(String[] args) {
        nothingAtFirst();
        emptyObjectRefuses();
        ranks();
        mouths();
        horses();
        eightHouseholds();
        householdsWrongNumberFirst();
        barsOfNone();
        barsWithItself();
        barsOnAndNoMore();
        barsOfTheLast();
        stores();
        owed();
        stalls();
        ninePlaces();
        firstPlace();
        worths();
        houses();
        walks();
        tenRoomsOfEach();
        roomTroublesInOrder();
        hours();
        noWayAnyMore();
        wayBothWaysAlike();
        waysOfNone();
        wayTroublesInOrder();
        mudAtFirst();
        mudFromUpTo();
        mudDays();
        mudDepths();
        mudDownwards();
        feastDays();
        feastPlaces();
        eightFeasts();
        feastInPlaceOfThatDays();
        feastNoMore();
        feastTroublesInOrder();
        bringBelowNothing();
        bringBeyondTheMost();
        bringBothOrNone();
        bringOfNone();
        c.end();
    }

    /** A household, a place without anything, and a text by which a day's need is its mud. */
    private static CourtProgress muddy() {
        CourtProgress x = new CourtProgress();
        x.household(1, 1, 0);
        Texts.ordain(x, 0, "eats mud");
        return x;
    }

    private static CourtProgress withPlaces(int many) {
        CourtProgress x = new CourtProgress();
        for (int p = 0; p < many; p++) {
            x.place(10, 10, 10);
        }
        return x;
    }

    // "No HOUSEHOLDS, no PLACES; TODAY is 0."
    private static void nothingAtFirst() {
        CourtProgress x = new CourtProgress();
        c.due("P1 no HOUSEHOLDS", x.count(0), 0);
        c.due("P1 no PLACES", x.count(1), 0);
        c.due("P1 TODAY is 0", x.count(5), 0);
        c.due("P1 the court is nowhere", x.count(6), -1);
        c.due("P1 nobody eats", x.eats(0, 0, false), -1);
        c.due("P1 nothing is needed on day 199", x.need(199), 0);
        c.due("P1 nothing of place 0", x.about(0, 0), -1);
        c.due("P1 no TROUBLE", x.trouble(), 0);
    }

    private static void emptyObjectRefuses() {
        CourtProgress x = new CourtProgress();
        c.due(x, "P3 bar of none", x.bar(0, 1, true), 1);
        c.due(x, "P5 room of none", x.room(0, 1, 0, 0), -1, 1);
        c.due(x, "P6 way of none", x.way(0, 1, 1), 1);
        c.due(x, "P8 feast at none", x.feast(0, 0), 1);
        c.due(x, "P9 bring to none", x.bring(0, 0, 0), 1);
        c.due(x, "P17 lodge at none", x.lodge(0), -1, 1);
        c.due(x, "P19 why at none", x.why(0), -1, 1);
        c.due(x, "P20 route without a PLACE", x.route(0), -1, 6);
        c.due(x, "P22 lasts without a PLACE", x.lasts(), -1, 6);
        c.due(x, "P23 step without a PLACE", x.step(0), -1, 1);
        c.due(x, "P28 hear of none", x.hear(1), 0, 0);
    }

    private static void householdDue(int rank, int mouths, int horses, boolean taken) {
        CourtProgress x = new CourtProgress();
        String call = "P2 household(" + rank + ", " + mouths + ", " + horses + ")";
        c.due(x, call, x.household(rank, mouths, horses), taken ? 0 : -1, taken ? 0 : 2);
        c.due("count(0) after " + call, x.count(0), taken ? 1 : 0);
        Texts.ordain(x, 0, "eats 1; feeds 100");
        c.due("need(0) after " + call, x.need(0), taken ? mouths + 100 * horses : 0);
        Texts.ordain(x, 0, "eats 10*rank");
        c.due("eats(0, 0) after " + call, x.eats(0, 0, false), taken ? 10 * rank : -1);
    }

    // "A HOUSEHOLD has a RANK (1 .. 9)"
    private static void ranks() {
        for (int rank = -1; rank <= 11; rank++) {
            householdDue(rank, 5, 5, rank >= 1 && rank <= 9);
        }
        householdDue(MIN, 5, 5, false);
        householdDue(MAX, 5, 5, false);
    }

    // "MOUTHS (1 .. 99)"
    private static void mouths() {
        int[] taken = {1, 2, 98, 99};
        for (int mouths : taken) {
            householdDue(5, mouths, 5, true);
        }
        int[] refused = {MIN, -1, 0, 100, MAX};
        for (int mouths : refused) {
            householdDue(5, mouths, 5, false);
        }
    }

    // "HORSES (0 .. 99)"
    private static void horses() {
        int[] taken = {0, 1, 98, 99};
        for (int horses : taken) {
            householdDue(5, 5, horses, true);
        }
        int[] refused = {MIN, -1, 100, MAX};
        for (int horses : refused) {
            householdDue(5, 5, horses, false);
        }
    }

    // "HOUSEHOLDS 8"; "A HOUSEHOLD more: its number. NONE: 2; 3."
    private static void eightHouseholds() {
        CourtProgress x = fullCourt();
        c.due(x, "P2 a ninth HOUSEHOLD", x.household(9, 99, 99), -1, 3);
        c.due("P15 eats(7)", x.eats(7, 0, false), 17);
        c.due("P15 eats(8)", x.eats(8, 0, false), -1);
        c.changesNothing("P2 a ninth HOUSEHOLD", CourtBoundsTest::fullCourt, y -> y.household(9, 99, 99));
    }

    private static CourtProgress fullCourt() {
        CourtProgress x = new CourtProgress();
        for (int h = 0; h < 8; h++) {
            c.due(x, "P2 household " + h, x.household(1 + h, 10 + h, h), h, 0);
        }
        Texts.ordain(x, 0, "eats mouths");
        return x;
    }

    private static void householdsWrongNumberFirst() {
        CourtProgress x = new CourtProgress();
        for (int h = 0; h < 8; h++) {
            x.household(1, 1, 1);
        }
        c.due(x, "P2 a ninth with a wrong RANK", x.household(10, 1, 1), -1, 2);
        c.due(x, "P2 a ninth with wrong MOUTHS", x.household(1, 0, 1), -1, 2);
        c.due(x, "P2 a ninth with wrong HORSES", x.household(1, 1, -1), -1, 2);
        c.due("P2 there are eight", x.count(0), 8);
    }

    /** Two households with two rooms of one house: why() tells whether they are barred. */
    private static CourtProgress inOneHouse() {
        CourtProgress x = new CourtProgress();
        x.household(1, 1, 0);
        x.household(1, 1, 0);
        x.place(0, 0, 0);
        x.room(0, 1, 0, 0);
        x.room(0, 1, 0, 0);
        return x;
    }

    // "false: 1"
    private static void barsOfNone() {
        CourtProgress x = inOneHouse();
        int[] none = {MIN, -2, -1, 2, 7, 8, 32, 33, MAX};
        for (int h : none) {
            c.due(x, "P3 bar(" + h + ", 0)", x.bar(h, 0, true), 1);
            c.due(x, "P3 bar(1, " + h + ")", x.bar(1, h, true), 1);
            c.due(x, "P3 bar(" + h + ", " + h + ")", x.bar(h, h, true), 1);
        }
        c.due("P3 none is BARRED", x.why(0), 0);
        x.bar(0, 1, true);
        c.due(x, "P3 bar(0, 2) no more", x.bar(0, 2, false), 1);
        c.due(x, "P3 bar(-1, 1) no more", x.bar(-1, 1, false), 1);
        c.due("P3 they are BARRED still", x.why(0), 3);
    }

    // "(also one with itself)"
    private static void barsWithItself() {
        CourtProgress x = inOneHouse();
        for (int h = 0; h < 2; h++) {
            c.due(x, "P3 bar with itself", x.bar(h, h, true), 1);
            c.due(x, "P3 bar with itself no more", x.bar(h, h, false), 1);
        }
        c.due("P3 none is BARRED", x.why(0), 0);
    }

    // "Two HOUSEHOLDS are BARRED, or no more: true"
    private static void barsOnAndNoMore() {
        CourtProgress x = inOneHouse();
        c.due(x, "P3 no more, though they were not", x.bar(0, 1, false), 0);
        c.due("P3 why", x.why(0), 0);
        c.due(x, "P3 BARRED", x.bar(0, 1, true), 0);
        c.due(x, "P3 BARRED again, told the other way", x.bar(1, 0, true), 0);
        c.due("P3 why", x.why(0), 3);
        c.due(x, "P3 one call is enough: no more", x.bar(1, 0, false), 0);
        c.due("P3 why", x.why(0), 0);
    }

    private static void barsOfTheLast() {
        CourtProgress x = new CourtProgress();
        x.place(0, 0, 0);
        for (int h = 0; h < 8; h++) {
            x.household(1, 1, 0);
            x.room(0, 1, 0, 0);
        }
        c.due(x, "P3 bar(0, 7)", x.bar(0, 7, true), 0);
        c.due("P3 why", x.why(0), 3);
        c.due(x, "P3 bar(7, 0) no more", x.bar(7, 0, false), 0);
        c.due("P3 why", x.why(0), 0);
        c.due(x, "P3 bar(6, 7)", x.bar(6, 7, true), 0);
        c.due(x, "P3 bar(5, 7) no more leaves the others", x.bar(5, 7, false), 0);
        c.due("P3 why", x.why(0), 3);
    }

    private static void placeDue(int store, int owes, int stalls, boolean taken) {
        CourtProgress x = new CourtProgress();
        String call = "P4 place(" + store + ", " + owes + ", " + stalls + ")";
        c.due(x, call, x.place(store, owes, stalls), taken ? 0 : -1, taken ? 0 : 2);
        c.due("count(1) after " + call, x.count(1), taken ? 1 : 0);
        c.due("count(6) after " + call, x.count(6), taken ? 0 : -1);
        c.due("about(0, 0) after " + call, x.about(0, 0), taken ? store : -1);
        c.due("about(0, 1) after " + call, x.about(0, 1), taken ? owes : -1);
    }

    // "STORE, OWES 0 .. 1,000,000"
    private static void stores() {
        int[] taken = {0, 1, 999999, 1000000};
        for (int store : taken) {
            placeDue(store, 5, 5, true);
        }
        int[] refused = {MIN, -1, 1000001, MAX};
        for (int store : refused) {
            placeDue(store, 5, 5, false);
        }
    }

    private static void owed() {
        int[] taken = {0, 1, 999999, 1000000};
        for (int owes : taken) {
            placeDue(5, owes, 5, true);
        }
        int[] refused = {MIN, -1, 1000001, MAX};
        for (int owes : refused) {
            placeDue(5, owes, 5, false);
        }
    }

    // "STALLS 0 .. 999"
    private static void stalls() {
        int[] taken = {0, 1, 998, 999};
        for (int stalls : taken) {
            placeDue(5, 5, stalls, true);
        }
        int[] refused = {MIN, -1, 1000, MAX};
        for (int stalls : refused) {
            placeDue(5, 5, stalls, false);
        }
    }

    // "PLACES 9"; "NONE: 2; 3."
    private static void ninePlaces() {
        CourtProgress x = fullLand();
        c.due(x, "P4 a tenth PLACE", x.place(1, 1, 1), -1, 3);
        c.due(x, "P4 a tenth with a wrong STORE", x.place(-1, 1, 1), -1, 2);
        c.due(x, "P4 a tenth with wrong OWES", x.place(1, 1000001, 1), -1, 2);
        c.due(x, "P4 a tenth with wrong STALLS", x.place(1, 1, 1000), -1, 2);
        c.due("P24 about(8, 0)", x.about(8, 0), 108);
        c.due("P24 about(8, 1)", x.about(8, 1), 208);
        c.due("P24 about(9, 0)", x.about(9, 0), -1);
        c.changesNothing("P4 a tenth PLACE", CourtBoundsTest::fullLand, y -> y.place(1, 1, 1));
    }

    private static CourtProgress fullLand() {
        CourtProgress x = new CourtProgress();
        for (int p = 0; p < 9; p++) {
            c.due(x, "P4 place " + p, x.place(100 + p, 200 + p, p), p, 0);
        }
        return x;
    }

    // "the first one is where the court is"
    private static void firstPlace() {
        CourtProgress x = new CourtProgress();
        x.place(-1, 0, 0);
        c.due("P4 a refused PLACE is none where the court is", x.count(6), -1);
        x.place(0, 0, 0);
        c.due("P4 the first one", x.count(6), 0);
        x.place(0, 0, 0);
        c.due("P4 not the second one", x.count(6), 0);
        x.way(0, 1, 1);
        x.step(1);
        x.place(0, 0, 0);
        c.due("P4 nor the third one", x.count(6), 1);
    }

    private static void roomDue(int worth, int house, int walk, boolean taken) {
        CourtProgress x = withPlaces(1);
        String call = "P5 room(0, " + worth + ", " + house + ", " + walk + ")";
        c.due(x, call, x.room(0, worth, house, walk), taken ? 0 : -1, taken ? 0 : 2);
        c.due("about(0, 3) after " + call, x.about(0, 3), taken ? 1 : 0);
        x.household(1, 2, 0);
        c.due("lodge(0) after " + call, x.lodge(0), taken ? 2 * walk : -1);
    }

    // "a WORTH (1 .. 9)"
    private static void worths() {
        for (int worth = -1; worth <= 11; worth++) {
            roomDue(worth, 1, 1, worth >= 1 && worth <= 9);
        }
        roomDue(MIN, 1, 1, false);
        roomDue(MAX, 1, 1, false);
    }

    // "a HOUSE (0 .. 3)"
    private static void houses() {
        for (int house = -2; house <= 5; house++) {
            roomDue(1, house, 1, house >= 0 && house <= 3);
        }
        roomDue(1, MIN, 1, false);
        roomDue(1, MAX, 1, false);
    }

    // "a WALK (0 .. 99)"
    private static void walks() {
        int[] taken = {0, 1, 98, 99};
        for (int walk : taken) {
            roomDue(1, 1, walk, true);
        }
        int[] refused = {MIN, -1, 100, MAX};
        for (int walk : refused) {
            roomDue(1, 1, walk, false);
        }
    }

    // "of each 10 ROOMS"; "A ROOM more of a PLACE: its number there."
    private static void tenRoomsOfEach() {
        CourtProgress x = withPlaces(9);
        int[] places = {8, 0, 4};
        for (int p : places) {
            for (int r = 0; r < 10; r++) {
                c.due(x, "P5 room " + r + " of place " + p, x.room(p, 1, 0, 0), r, 0);
            }
            c.due(x, "P5 an eleventh ROOM of place " + p, x.room(p, 1, 0, 0), -1, 3);
            c.due("P24 its ROOMS", x.about(p, 3), 10);
        }
        c.due("P24 those of place 1", x.about(1, 3), 0);
        c.due("P24 those of place 7", x.about(7, 3), 0);
    }

    // "NONE: 1; 2; 3."
    private static void roomTroublesInOrder() {
        CourtProgress x = withPlaces(1);
        for (int r = 0; r < 10; r++) {
            x.room(0, 1, 0, 0);
        }
        int[] none = {MIN, -1, 1, 9, MAX};
        for (int p : none) {
            c.due(x, "P5 a room of place " + p, x.room(p, 1, 0, 0), -1, 1);
            c.due(x, "P5 a wrong room of place " + p, x.room(p, 0, 4, 100), -1, 1);
        }
        c.due(x, "P5 an eleventh with a wrong WORTH", x.room(0, 10, 0, 0), -1, 2);
        c.due(x, "P5 an eleventh with a wrong HOUSE", x.room(0, 1, -1, 0), -1, 2);
        c.due(x, "P5 an eleventh with a wrong WALK", x.room(0, 1, 0, 100), -1, 2);
        c.due("P24 ROOMS", x.about(0, 3), 10);
    }

    // "HOURS (1 .. 48)"; "(0: there is none any more)"; "2"
    private static void hours() {
        CourtProgress x = withPlaces(2);
        x.feast(1, 1);
        int[] refused = {MIN, -1, 49, MAX};
        for (int hours : refused) {
            c.due(x, "P6 a way of " + hours, x.way(0, 1, hours), 2);
            c.due(x, "P6 no way came of it", x.route(1), -1, 6);
        }
        for (int hours = 1; hours <= 48; hours++) {
            c.due(x, "P6 a way of " + hours, x.way(0, 1, hours), 0);
            boolean goes = hours <= 16;
            c.due(x, "P20 route by it", x.route(1), goes ? hours : -1, goes ? 0 : 6);
        }
        x.way(0, 1, 7);
        for (int hours : refused) {
            x.way(0, 1, hours);
            c.due("P6 a refused one leaves the WAY", x.route(1), 7);
        }
    }

    private static void noWayAnyMore() {
        CourtProgress x = withPlaces(2);
        c.due(x, "P6 none any more, though none was", x.way(0, 1, 0), 0);
        x.way(0, 1, 5);
        c.due(x, "P6 none any more", x.way(1, 0, 0), 0);
        c.due(x, "P23 step to 1", x.step(1), -1, 5);
        c.due(x, "P6 one again", x.way(1, 0, 5), 0);
        c.due(x, "P23 step to 1", x.step(1), 0, 0);
    }

    // "both ways alike"
    private static void wayBothWaysAlike() {
        CourtProgress x = withPlaces(9);
        x.way(8, 0, 3);
        c.due(x, "P23 step(8)", x.step(8), 0, 0);
        c.due(x, "P23 step(0)", x.step(0), 0, 0);
        x.way(0, 8, 16);
        x.feast(3, 8);
        c.due("P20 the later HOURS", x.route(3), 16);
        x.step(8);
        x.feast(3, -1);
        x.feast(4, 0);
        c.due("P20 and back", x.route(4), 16);
    }

    // "false: 1 (also one with itself)"
    private static void waysOfNone() {
        CourtProgress x = withPlaces(3);
        int[] none = {MIN, -1, 3, 8, 9, MAX};
        for (int p : none) {
            c.due(x, "P6 way(" + p + ", 0)", x.way(p, 0, 1), 1);
            c.due(x, "P6 way(1, " + p + ")", x.way(1, p, 1), 1);
            c.due(x, "P6 way(" + p + ", " + p + ")", x.way(p, p, 1), 1);
        }
        for (int p = 0; p < 3; p++) {
            c.due(x, "P6 way with itself", x.way(p, p, 1), 1);
            c.due(x, "P6 no way with itself", x.way(p, p, 0), 1);
        }
        c.due(x, "P23 no way came of it", x.step(1), -1, 5);
        c.due(x, "P23 nor to 2", x.step(2), -1, 5);
    }

    private static void wayTroublesInOrder() {
        CourtProgress x = withPlaces(2);
        c.due(x, "P6 one with itself, wrong HOURS", x.way(0, 0, 49), 1);
        c.due(x, "P6 one that is none, wrong HOURS", x.way(0, 2, -1), 1);
        c.due(x, "P6 wrong HOURS", x.way(0, 1, -1), 2);
    }

    // "MUD of a DAY: 0 .. 4 (0 at first)"
    private static void mudAtFirst() {
        CourtProgress x = muddy();
        for (int day = 0; day < 200; day++) {
            c.due("P7 MUD of day " + day, x.need(day), 0);
        }
    }

    // "MUD of DAYS from up to to (it, too)"
    private static void mudFromUpTo() {
        CourtProgress x = muddy();
        c.due(x, "P7 mud(10, 12, 3)", x.mud(10, 12, 3), 0);
        int[] deep = {0, 3, 3, 3, 0};
        for (int i = 0; i < deep.length; i++) {
            c.due("P7 MUD of day " + (9 + i), x.need(9 + i), deep[i]);
        }
        c.due(x, "P7 one DAY", x.mud(11, 11, 1), 0);
        int[] then = {0, 3, 1, 3, 0};
        for (int i = 0; i < then.length; i++) {
            c.due("P7 MUD of day " + (9 + i), x.need(9 + i), then[i]);
        }
    }

    // "DAYS 0 .. 199"; "false (2)"
    private static void mudDays() {
        CourtProgress x = muddyEnds();
        int[][] wrong = {{-1, 0}, {-1, -1}, {MIN, 5}, {0, 200}, {199, 200}, {200, 200}, {5, MAX}, {1, 0}, {199, 0}, {6, 5}, {200, -1}, {MIN, MAX}, {MAX, MIN}};
        for (int[] w : wrong) {
            String call = "P7 mud(" + w[0] + ", " + w[1] + ", 4)";
            c.due(x, call, x.mud(w[0], w[1], 4), 2);
            c.changesNothing(call, CourtBoundsTest::muddyEnds, y -> y.mud(w[0], w[1], 4));
        }
        c.due(x, "P7 all DAYS", x.mud(0, 199, 4), 0);
        for (int day = 0; day < 200; day++) {
            c.due("P7 MUD of day " + day, x.need(day), 4);
        }
    }

    private static CourtProgress muddyEnds() {
        CourtProgress x = muddy();
        c.due(x, "P7 the first DAY", x.mud(0, 0, 2), 0);
        c.due(x, "P7 the last DAY", x.mud(199, 199, 3), 0);
        return x;
    }

    private static void mudDepths() {
        CourtProgress x = muddy();
        for (int deep = 4; deep >= 0; deep--) {
            c.due(x, "P7 mud " + deep, x.mud(3, 5, deep), 0);
            c.due("P7 MUD is " + deep, x.need(4), deep);
        }
        x.mud(3, 5, 2);
        int[] wrong = {MIN, -1, 5, MAX};
        for (int deep : wrong) {
            c.due(x, "P7 mud " + deep, x.mud(3, 5, deep), 2);
            c.due("P7 MUD is 2 still", x.need(4), 2);
        }
        c.due(x, "P7 a DAY that is past has MUD, too", pastDay(x).mud(0, 0, 4), 0);
        c.due("P7 its MUD", x.need(0), 4);
    }

    private static CourtProgress pastDay(CourtProgress x) {
        x.place(0, 0, 0);
        x.step(0);
        return x;
    }

    // "HOURS become HOURS * (4 + MUD) / 4, downwards"; "of no more than 16 HOURS"
    private static void mudDownwards() {
        for (int deep = 0; deep <= 4; deep++) {
            CourtProgress x = withPlaces(2);
            x.feast(1, 1);
            x.mud(0, 0, deep);
            for (int hours = 1; hours <= 48; hours++) {
                x.way(0, 1, hours);
                // Quarters of the hours, one by one: so the rounding is not the program's own.
                int quarters = 0;
                for (int h = 0; h < hours; h++) {
                    quarters += 4 + deep;
                }
                int whole = 0;
                while (quarters >= 4) {
                    quarters -= 4;
                    whole++;
                }
                boolean goes = whole <= 16;
                c.due(x, "P20 " + hours + " HOURS in MUD " + deep, x.route(1), goes ? whole : -1, goes ? 0 : 6);
            }
        }
    }

    // "A FEAST: a DAY"; DAYS 0 .. 199; "2"
    private static void feastDays() {
        CourtProgress x = withPlaces(1);
        c.due(x, "P8 on day 0", x.feast(0, 0), 0);
        c.due(x, "P8 on day 199", x.feast(199, 0), 0);
        int[] wrong = {MIN, -2, -1, 200, MAX};
        for (int day : wrong) {
            c.due(x, "P8 on day " + day, x.feast(day, 0), 2);
            c.due(x, "P8 no more on day " + day, x.feast(day, -1), 2);
        }
        c.due("P31 FEASTS", x.count(3), 2);
    }

    // "at a PLACE"; "1"
    private static void feastPlaces() {
        CourtProgress x = withPlaces(9);
        c.due(x, "P8 at place 8", x.feast(0, 8), 0);
        c.due(x, "P8 at place 0", x.feast(1, 0), 0);
        int[] none = {MIN, -3, -2, 9, MAX};
        for (int p : none) {
            c.due(x, "P8 at place " + p, x.feast(0, p), 1);
            c.due(x, "P8 at place " + p, x.feast(5, p), 1);
        }
        c.due("P31 FEASTS", x.count(3), 2);
        c.due(x, "P8 that of day 0 is at place 8 still", x.route(0), -1, 6);
        c.due(x, "P8 so it is no more", x.feast(0, 0), 0);
        c.due(x, "P8 but here", x.route(0), 0, 0);
    }

    // "FEASTS 8"; "3"
    private static void eightFeasts() {
        CourtProgress x = fullOfFeasts();
        c.due(x, "P8 a ninth FEAST", x.feast(5, 1), 3);
        c.due(x, "P8 a ninth FEAST on day 199", x.feast(199, 0), 3);
        // Those of past days are FEASTS still.
        x.feast(0, 0);
        x.step(0);
        c.due(x, "P8 a ninth FEAST when one is past", x.feast(5, 1), 3);
        c.changesNothing("P8 a ninth FEAST", CourtBoundsTest::fullOfFeasts, y -> y.feast(5, 1));
    }

    private static CourtProgress fullOfFeasts() {
        CourtProgress x = withPlaces(2);
        for (int f = 0; f < 8; f++) {
            c.due(x, "P8 feast " + f, x.feast(10 * f, f % 2), 0);
            c.due("P31 FEASTS", x.count(3), f + 1);
        }
        return x;
    }

    // "(in place of that DAY's"; "one at most of a DAY"
    private static void feastInPlaceOfThatDays() {
        CourtProgress x = withPlaces(2);
        x.way(0, 1, 2);
        x.feast(1, 0);
        c.due(x, "P8 the same again", x.feast(1, 0), 0);
        c.due("P31 FEASTS", x.count(3), 1);
        c.due("P20 route", x.route(1), 0);
        c.due(x, "P8 at another PLACE", x.feast(1, 1), 0);
        c.due("P31 FEASTS", x.count(3), 1);
        c.due("P20 route", x.route(1), 2);
        for (int f = 2; f < 9; f++) {
            x.feast(f, 1);
        }
        c.due("P31 FEASTS", x.count(3), 8);
        c.due(x, "P8 in place of that DAY's when there are eight", x.feast(1, 0), 0);
        c.due("P31 FEASTS", x.count(3), 8);
        c.due("P20 route", x.route(1), 0);
    }

    // "-1: no more)"
    private static void feastNoMore() {
        CourtProgress x = withPlaces(1);
        x.household(1, 1, 0);
        Texts.ordain(x, 0, "eats feast");
        for (int f = 0; f < 8; f++) {
            x.feast(f, 0);
        }
        c.due("P8 day 7 has one", x.need(7), 1);
        c.due(x, "P8 no more", x.feast(7, -1), 0);
        c.due("P8 day 7 has none", x.need(7), 0);
        c.due("P31 FEASTS", x.count(3), 7);
        c.due(x, "P8 no more, twice", x.feast(7, -1), 0);
        c.due("P31 FEASTS", x.count(3), 7);
        c.due(x, "P8 there is room again", x.feast(199, 0), 0);
        c.due(x, "P8 but for one", x.feast(7, 0), 3);
        c.due("P8 day 7 has none", x.need(7), 0);
        c.due(x, "P8 no more of a DAY without one, when there are eight", x.feast(100, -1), 0);
        c.due("P31 FEASTS", x.count(3), 8);
    }

    // "false: 1; 2; 3."
    private static void feastTroublesInOrder() {
        CourtProgress x = withPlaces(1);
        for (int f = 0; f < 8; f++) {
            x.feast(f, 0);
        }
        c.due(x, "P8 at no PLACE, on no DAY, when there are eight", x.feast(200, 1), 1);
        c.due(x, "P8 at no PLACE when there are eight", x.feast(9, 1), 1);
        c.due(x, "P8 on no DAY when there are eight", x.feast(-1, 0), 2);
        c.due(x, "P8 when there are eight", x.feast(9, 0), 3);
    }

    private static void bringDue(int store, int owes, int trouble) {
        CourtProgress x = new CourtProgress();
        x.place(0, 0, 0);
        x.place(400, 700000, 0);
        String call = "P9 bring(1, " + store + ", " + owes + ")";
        c.due(x, call, x.bring(1, store, owes), trouble);
        c.due("STORE after " + call, x.about(1, 0), trouble == 0 ? 400 + store : 400);
        c.due("OWES after " + call, x.about(1, 1), trouble == 0 ? 700000 + owes : 700000);
        c.due("TALLY after " + call, x.about(1, 2), 0);
        c.due("STORE of the other after " + call, x.about(0, 0), 0);
    }

    // "2 (below 0"
    private static void bringBelowNothing() {
        bringDue(-400, 0, 0);
        bringDue(-401, 0, 2);
        bringDue(MIN, 0, 2);
        bringDue(0, -700000, 0);
        bringDue(0, -700001, 2);
        bringDue(0, MIN, 2);
        bringDue(-400, -700000, 0);
    }

    // "or beyond 1,000,000 then)"
    private static void bringBeyondTheMost() {
        bringDue(0, 0, 0);
        bringDue(999600, 0, 0);
        bringDue(999601, 0, 2);
        bringDue(MAX, 0, 2);
        bringDue(0, 300000, 0);
        bringDue(0, 300001, 2);
        bringDue(0, MAX, 2);
        bringDue(999600, 300000, 0);
    }

    /** Where one of both is refused, neither grows. */
    private static void bringBothOrNone() {
        bringDue(5, -700001, 2);
        bringDue(5, 300001, 2);
        bringDue(-401, 5, 2);
        bringDue(999601, 5, 2);
        bringDue(MIN, MAX, 2);
        bringDue(-1, 1, 0);
        bringDue(1, -1, 0);
    }

    // "false: 1"
    private static void bringOfNone() {
        CourtProgress x = withPlaces(2);
        int[] none = {MIN, -1, 2, 9, MAX};
        for (int p : none) {
            c.due(x, "P9 bring to place " + p, x.bring(p, 1, 1), 1);
            c.due(x, "P9 bring too little to place " + p, x.bring(p, MIN, MIN), 1);
        }
        for (int p = 0; p < 2; p++) {
            c.due("P24 STORE", x.about(p, 0), 10);
            c.due("P24 OWES", x.about(p, 1), 10);
        }
    }
}
