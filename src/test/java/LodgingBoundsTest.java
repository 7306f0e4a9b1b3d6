/**
 * The boundary cases of promises 17 to 19 and of the Terms IV: a method for each sentence that
 * names one, with the sentence above it.
 */
public final class LodgingBoundsTest {
    private static final Checks c = new Checks("LodgingBoundsTest");
    private static final int MIN = Integer.MIN_VALUE;
    private static final int MAX = Integer.MAX_VALUE;

    public static void main(String[] args) {
        lodgingAtNone();
        lodgingOfNobody();
        roomsFewer();
        roomsFullHouse();
        stallsTogether();
        stallsAtMost();
        barsOneHouse();
        barsOfTwoOnly();
        barsFourHouses();
        ranksMoreWorth();
        ranksAlike();
        ranksOfOneRank();
        ranksOverAllRooms();
        reasonsInOrder();
        barsAlone();
        sums();
        leastSum();
        asGoodOnes();
        asGoodOnesLater();
        lodgedOfOthers();
        lodgedOfTheLatest();
        lodgingsOfNow();
        refusedChangesNothing();
        c.end();
    }

    /** So many households of one rank, each with one mouth, and as many rooms of one house. */
    private static CourtProgress alike(int households, int rooms) {
        CourtProgress x = new CourtProgress();
        x.place(0, 0, 0);
        for (int h = 0; h < households; h++) {
            x.household(5, 1, 0);
        }
        for (int r = 0; r < rooms; r++) {
            x.room(0, 5, 0, 1);
        }
        return x;
    }

    private static void whyDue(CourtProgress x, String what, int place, int reason) {
        c.due(x, "P19 " + what, x.why(place), reason, 0);
        int trouble = reason == 0 ? 0 : 6;
        c.due("P17 lodge() tells a number: " + what, x.lodge(place) >= 0, reason == 0);
        c.due("P17 trouble(): " + what, x.trouble(), trouble);
    }

    private static void lodgedDue(CourtProgress x, String what, int... rooms) {
        for (int h = 0; h < rooms.length; h++) {
            c.due("P18 lodged(" + h + ") " + what, x.lodged(h), rooms[h]);
        }
    }

    // "NONE: 1"; "NONE (1)"
    private static void lodgingAtNone() {
        CourtProgress x = alike(1, 1);
        int[] none = {MIN, -2, -1, 1, 8, 9, MAX};
        for (int p : none) {
            c.due(x, "P17 lodge(" + p + ")", x.lodge(p), -1, 1);
            c.due(x, "P19 why(" + p + ")", x.why(p), -1, 1);
        }
        for (int p = 1; p < 9; p++) {
            x.place(0, 0, 0);
        }
        c.due(x, "P17 lodge(8)", x.lodge(8), -1, 6);
        c.due(x, "P19 why(8)", x.why(8), 1, 0);
        c.due(x, "P17 lodge(9)", x.lodge(9), -1, 1);
        c.due(x, "P19 why(9)", x.why(9), -1, 1);
        x.room(8, 1, 0, 99);
        c.due(x, "P17 lodge(8) with a room", x.lodge(8), 99, 0);
        c.due(x, "P19 why(8) with a room", x.why(8), 0, 0);
    }

    /** Of no households: each of them has a room, so there is a lodging, of a sum of nothing. */
    private static void lodgingOfNobody() {
        CourtProgress x = alike(0, 0);
        c.due(x, "P17 lodge of nobody without rooms", x.lodge(0), 0, 0);
        c.due(x, "P19 why of nobody without rooms", x.why(0), 0, 0);
        x.room(0, 1, 0, 99);
        c.due(x, "P17 lodge of nobody", x.lodge(0), 0, 0);
        for (int h = -1; h < 9; h++) {
            c.due("P18 lodged(" + h + ")", x.lodged(h), -1);
        }
    }

    // "1 ROOMS fewer than HOUSEHOLDS"; "each HOUSEHOLD has a ROOM of its own"
    private static void roomsFewer() {
        for (int households = 0; households <= 8; households++) {
            for (int rooms = 0; rooms <= 10; rooms++) {
                CourtProgress x = alike(households, rooms);
                whyDue(x, households + " households in " + rooms + " rooms", 0, rooms < households ? 1 : 0);
            }
        }
    }

    private static void roomsFullHouse() {
        CourtProgress x = alike(8, 10);
        c.due("P17 eight households in ten rooms", x.lodge(0), 8);
        boolean[] had = new boolean[10];
        for (int h = 0; h < 8; h++) {
            int r = x.lodged(h);
            c.due("P18 lodged(" + h + ") is a room", r >= 0 && r < 10, true);
            if (r >= 0 && r < 10) {
                c.due("P18 lodged(" + h + ") is a room of its own", had[r], false);
                had[r] = true;
            }
        }
    }

    // "HORSES together no more than STALLS"; "2 STALLS"
    private static void stallsTogether() {
        for (int stalls = 5; stalls <= 7; stalls++) {
            CourtProgress x = new CourtProgress();
            x.place(0, 0, stalls);
            x.household(5, 1, 4);
            x.household(5, 1, 2);
            x.room(0, 5, 0, 1);
            x.room(0, 5, 0, 1);
            whyDue(x, "six horses in " + stalls + " stalls", 0, stalls < 6 ? 2 : 0);
            x.household(5, 1, 0);
            x.room(0, 5, 0, 1);
            whyDue(x, "and a household without horses", 0, stalls < 6 ? 2 : 0);
        }
        CourtProgress x = alike(1, 1);
        whyDue(x, "no horses, no stalls", 0, 0);
    }

    private static void stallsAtMost() {
        for (int stalls = 791; stalls <= 793; stalls++) {
            CourtProgress x = new CourtProgress();
            x.place(0, 0, stalls);
            for (int h = 0; h < 8; h++) {
                x.household(1, 1, 99);
                x.room(0, 1, 0, 0);
            }
            whyDue(x, "792 horses in " + stalls + " stalls", 0, stalls < 792 ? 2 : 0);
        }
    }

    // "no two BARRED ones have ROOMS of one HOUSE"
    private static void barsOneHouse() {
        for (int one = 0; one <= 3; one++) {
            for (int other = 0; other <= 3; other++) {
                CourtProgress x = new CourtProgress();
                x.place(0, 0, 0);
                x.household(5, 1, 0);
                x.household(5, 1, 0);
                x.room(0, 1, one, 1);
                x.room(0, 1, other, 1);
                whyDue(x, "houses " + one + ", " + other, 0, 0);
                x.bar(1, 0, true);
                whyDue(x, "barred, houses " + one + ", " + other, 0, one == other ? 3 : 0);
            }
        }
    }

    /** Those that are barred from a third one may be of one house. */
    private static void barsOfTwoOnly() {
        CourtProgress x = new CourtProgress();
        x.place(0, 0, 0);
        for (int h = 0; h < 3; h++) {
            x.household(5, 1, 0);
        }
        x.room(0, 1, 0, 1);
        x.room(0, 1, 1, 1);
        x.room(0, 1, 0, 1);
        x.bar(0, 2, true);
        x.bar(1, 2, true);
        whyDue(x, "two barred from a third", 0, 0);
        lodgedDue(x, "two barred from a third", 0, 2, 1);
        x.bar(0, 1, true);
        whyDue(x, "three barred in two houses", 0, 3);
    }

    private static void barsFourHouses() {
        CourtProgress x = new CourtProgress();
        x.place(0, 0, 0);
        for (int h = 0; h < 5; h++) {
            x.household(5, 1, 0);
            x.room(0, 5, h % 4, h);
            for (int g = 0; g < h && h < 4; g++) {
                x.bar(g, h, true);
            }
        }
        whyDue(x, "four barred in four houses, and a fifth", 0, 0);
        for (int g = 0; g < 3; g++) {
            x.bar(4, g, true);
        }
        whyDue(x, "the fifth barred from three", 0, 0);
        // The fifth can be with household 3 alone: of the rooms 0 and 4.
        lodgedDue(x, "the fifth barred from three", 1, 2, 3, 0, 4);
        x.bar(3, 4, true);
        whyDue(x, "five barred in four houses", 0, 3);
    }

    // "none has a ROOM of more WORTH than one of higher RANK has"
    private static void ranksMoreWorth() {
        CourtProgress x = new CourtProgress();
        x.place(0, 0, 0);
        x.household(4, 90, 0);
        x.household(5, 1, 0);
        x.room(0, 6, 0, 0);
        x.room(0, 5, 0, 1);
        c.due("P17 the room of less worth, though it is far", x.lodge(0), 90);
        lodgedDue(x, "by rank", 1, 0);
        CourtProgress y = new CourtProgress();
        y.place(0, 0, 0);
        y.household(9, 1, 0);
        y.household(1, 90, 0);
        y.room(0, 9, 0, 0);
        y.room(0, 1, 0, 1);
        c.due("P17 the ends of RANK and WORTH", y.lodge(0), 90);
        lodgedDue(y, "by the ends", 0, 1);
    }

    /** As much worth as one of higher rank has is not more. */
    private static void ranksAlike() {
        CourtProgress x = new CourtProgress();
        x.place(0, 0, 0);
        x.household(4, 90, 0);
        x.household(5, 1, 0);
        x.room(0, 5, 0, 0);
        x.room(0, 5, 0, 1);
        c.due("P17 rooms of as much worth", x.lodge(0), 1);
        lodgedDue(x, "of as much worth", 0, 1);
    }

    private static void ranksOfOneRank() {
        CourtProgress x = new CourtProgress();
        x.place(0, 0, 0);
        x.household(5, 90, 0);
        x.household(5, 1, 0);
        x.room(0, 1, 0, 1);
        x.room(0, 9, 0, 0);
        c.due("P17 households of one rank", x.lodge(0), 1);
        lodgedDue(x, "of one rank", 1, 0);
        x.household(4, 1, 0);
        x.room(0, 1, 0, 50);
        c.due("P17 and one below both", x.lodge(0), 51);
        lodgedDue(x, "and one below both", 1, 0, 2);
        x.room(0, 2, 0, 0);
        // The nearest room for the one below would be of more worth than one of rank 5 has, unless both have more.
        c.due("P17 and a near room", x.lodge(0), 1);
        lodgedDue(x, "and a near room", 1, 3, 0);
    }

    /** The nearest of ten rooms, for the lowest one, would leave too few for the seven above it. */
    private static void ranksOverAllRooms() {
        for (int worthy = 0; worthy <= 10; worthy++) {
            CourtProgress x = new CourtProgress();
            x.place(0, 0, 0);
            for (int r = 0; r < 10; r++) {
                x.room(0, r < worthy ? 9 : 1, 0, r);
            }
            x.household(1, 99, 0);
            for (int h = 1; h < 8; h++) {
                x.household(9, 1, 0);
            }
            // Household 0 has room 0, if the others find seven as good; else the nearest of worth 1.
            int sum = worthy == 0 || worthy >= 8 ? 28 : 99 * worthy + 28 - worthy;
            c.due(x, "P17 rooms of worth 9: " + worthy, x.lodge(0), sum, 0);
            c.due(x, "P19 rooms of worth 9: " + worthy, x.why(0), 0, 0);
        }
    }

    // "WHY there is none: 1 .. 2 .. 3 .. 4": the first of them that holds
    private static void reasonsInOrder() {
        CourtProgress x = new CourtProgress();
        x.household(5, 1, 1);
        x.household(4, 1, 1);
        x.household(3, 1, 1);
        x.bar(0, 1, true);
        x.bar(1, 2, true);
        x.bar(0, 2, true);
        x.place(0, 0, 0);
        whyDue(x, "no rooms, no stalls", 0, 1);
        x.room(0, 5, 0, 1);
        x.room(0, 9, 0, 1);
        whyDue(x, "two rooms, no stalls", 0, 1);
        x.room(0, 5, 1, 1);
        whyDue(x, "three rooms, no stalls, two houses", 0, 2);
        x.place(0, 0, 3);
        x.room(1, 5, 0, 1);
        x.room(1, 9, 0, 1);
        whyDue(x, "two rooms, three stalls", 1, 1);
        x.room(1, 5, 1, 1);
        whyDue(x, "three rooms, three stalls, two houses", 1, 3);
        x.room(1, 5, 2, 1);
        whyDue(x, "four rooms in three houses", 1, 0);
    }

    // "3 BARS alone (without RANKS there is none either), 4 RANKS"
    private static void barsAlone() {
        CourtProgress x = new CourtProgress();
        x.place(0, 0, 0);
        x.household(9, 1, 0);
        x.household(5, 1, 0);
        x.household(1, 1, 0);
        x.bar(0, 2, true);
        x.room(0, 9, 0, 0);
        x.room(0, 5, 1, 0);
        x.room(0, 1, 0, 0);
        // By ranks 0 and 2 have the rooms of house 0; without them one of both has room 1.
        whyDue(x, "by ranks", 0, 4);
        x.bar(0, 1, true);
        whyDue(x, "by ranks still: 1 and 2 may have house 0", 0, 4);
        x.bar(1, 2, true);
        whyDue(x, "by bars alone", 0, 3);
        x.bar(0, 2, false);
        whyDue(x, "with two bars by which ranks hold", 0, 0);
    }

    // "the sum of MOUTHS times WALK"
    private static void sums() {
        int[] mouths = {1, 99};
        int[] walks = {0, 1, 99};
        for (int m : mouths) {
            for (int w : walks) {
                CourtProgress x = new CourtProgress();
                x.place(0, 0, 0);
                x.household(5, m, 0);
                x.room(0, 5, 0, w);
                c.due(x, "P17 " + m + " mouths, a walk of " + w, x.lodge(0), m * w, 0);
            }
        }
        CourtProgress x = new CourtProgress();
        x.place(0, 0, 999);
        for (int h = 0; h < 8; h++) {
            x.household(5, 99, 99);
            x.room(0, 5, 0, 99);
        }
        c.due(x, "P17 the most there can be", x.lodge(0), 78408, 0);
    }

    // "BEST: the one with the least sum"
    private static void leastSum() {
        CourtProgress x = new CourtProgress();
        x.place(0, 0, 0);
        x.household(5, 10, 0);
        x.household(5, 11, 0);
        x.room(0, 5, 0, 2);
        x.room(0, 5, 0, 1);
        c.due("P17 the most mouths the least walk", x.lodge(0), 31);
        lodgedDue(x, "the most mouths the least walk", 0, 1);
        x.room(0, 5, 0, 1);
        c.due("P17 a room more", x.lodge(0), 21);
        x.bar(0, 1, true);
        c.due(x, "P17 barred in one house", x.lodge(0), -1, 6);
        x.room(0, 5, 1, 3);
        c.due("P17 a far room of another house", x.lodge(0), 41);
        lodgedDue(x, "a far room of another house", 3, 1);
    }

    // "of as good ones that in which HOUSEHOLD 0 has the lesser ROOM, then HOUSEHOLD 1 .."
    private static void asGoodOnes() {
        CourtProgress x = alike(3, 4);
        x.lodge(0);
        lodgedDue(x, "of as good ones", 0, 1, 2);
        CourtProgress y = new CourtProgress();
        y.place(0, 0, 0);
        y.household(5, 3, 0);
        y.household(5, 3, 0);
        y.room(0, 5, 0, 2);
        y.room(0, 5, 0, 1);
        c.due("P17 as good, with either in room 0", y.lodge(0), 9);
        lodgedDue(y, "the lesser room, though it is farther", 0, 1);
        y.room(0, 5, 0, 1);
        c.due("P17 a room more", y.lodge(0), 6);
        lodgedDue(y, "the lesser of those of the best", 1, 2);
    }

    /** Household 0 comes first, whatever the later ones have by it. */
    private static void asGoodOnesLater() {
        CourtProgress x = new CourtProgress();
        x.place(0, 0, 0);
        x.household(5, 1, 0);
        x.household(5, 1, 0);
        x.household(5, 1, 0);
        x.bar(0, 1, true);
        x.room(0, 5, 0, 0);
        x.room(0, 5, 0, 0);
        x.room(0, 5, 1, 0);
        x.room(0, 5, 1, 0);
        c.due("P17 lodge", x.lodge(0), 0);
        lodgedDue(x, "then household 1", 0, 2, 1);
        x.bar(1, 2, true);
        c.due("P17 lodge", x.lodge(0), 0);
        lodgedDue(x, "household 1 alone in its house", 0, 2, 1);
        x.bar(0, 2, true);
        c.due(x, "P17 three barred in two houses", x.lodge(0), -1, 6);
        x.bar(0, 1, false);
        c.due("P17 lodge", x.lodge(0), 0);
        lodgedDue(x, "household 2 alone in its house", 0, 1, 2);
    }

    // "The ROOM of a HOUSEHOLD ..; NONE."
    private static void lodgedOfOthers() {
        CourtProgress x = alike(8, 8);
        for (int h = -1; h <= 8; h++) {
            c.due("P18 lodged(" + h + ") before any lodge()", x.lodged(h), -1);
        }
        x.lodge(0);
        int[] none = {MIN, -2, -1, 8, 9, MAX};
        for (int h : none) {
            c.due("P18 lodged(" + h + ")", x.lodged(h), -1);
        }
        c.due("P18 lodged(0)", x.lodged(0), 0);
        c.due("P18 lodged(7)", x.lodged(7), 7);
    }

    // "in the latest lodge() that told a number"
    private static void lodgedOfTheLatest() {
        CourtProgress x = alike(2, 2);
        x.place(0, 0, 0);
        x.room(1, 5, 0, 9);
        x.room(1, 5, 0, 0);
        x.room(1, 5, 0, 0);
        c.due(x, "P17 lodge(1) refused", x.lodge(2), -1, 1);
        lodgedDue(x, "before any that told a number", -1, -1);
        x.lodge(1);
        lodgedDue(x, "in lodge(1)", 1, 2);
        x.lodge(2);
        lodgedDue(x, "after one refused by 1", 1, 2);
        x.bar(0, 1, true);
        c.due(x, "P17 lodge(0) of barred ones", x.lodge(0), -1, 6);
        lodgedDue(x, "after one refused by 6", 1, 2);
        x.bar(0, 1, false);
        x.why(0);
        lodgedDue(x, "after why()", 1, 2);
        x.household(5, 1, 0);
        lodgedDue(x, "one that came later has none", 1, 2, -1);
        x.lodge(0);
        lodgedDue(x, "after one refused by 6 of three", 1, 2, -1);
        c.due("P17 lodge(1) of three", x.lodge(1), 9);
        lodgedDue(x, "of three", 0, 1, 2);
    }

    /** A lodging is of the rooms, bars and households that there are when it is asked for. */
    private static void lodgingsOfNow() {
        CourtProgress x = alike(1, 1);
        c.due("P17 lodge", x.lodge(0), 1);
        x.room(0, 5, 0, 0);
        c.due("P18 the room of then", x.lodged(0), 0);
        c.due("P17 a nearer room", x.lodge(0), 0);
        c.due("P18 it", x.lodged(0), 1);
        x.household(6, 1, 0);
        x.room(0, 4, 0, 0);
        c.due("P17 one of higher rank", x.lodge(0), 0);
        lodgedDue(x, "of higher rank", 2, 1);
        for (int r = 3; r < 10; r++) {
            x.room(0, 9, 3, 99);
        }
        for (int h = 2; h < 8; h++) {
            x.household(9, 99, 0);
        }
        // One of rank 9 has room 1, of worth 5; so 0 and 1 must have no more: rooms 2 and 0.
        c.due("P17 a full court", x.lodge(0), 1 + 5 * 99 * 99);
        lodgedDue(x, "a full court", 2, 0, 1, 3, 4, 5, 6, 7);
    }

    private static void refusedChangesNothing() {
        c.changesNothing("P17 a lodge refused by 6", LodgingBoundsTest::lodgedAtOne, x -> c.due(x, "P17 lodge(0)", x.lodge(0), -1, 6));
        c.changesNothing("P17 a lodge refused by 1", LodgingBoundsTest::lodgedAtOne, x -> c.due(x, "P17 lodge(2)", x.lodge(2), -1, 1));
        c.changesNothing("P19 why(0)", LodgingBoundsTest::lodgedAtOne, x -> c.due(x, "P19 why(0)", x.why(0), 3, 0));
        c.changesNothing("P19 why(1)", LodgingBoundsTest::lodgedAtOne, x -> c.due(x, "P19 why(1)", x.why(1), 0, 0));
        c.changesNothing("P19 a why refused by 1", LodgingBoundsTest::lodgedAtOne, x -> c.due(x, "P19 why(2)", x.why(2), -1, 1));
    }

    private static CourtProgress lodgedAtOne() {
        CourtProgress x = alike(2, 2);
        x.bar(0, 1, true);
        x.place(0, 0, 0);
        x.room(1, 5, 0, 1);
        x.room(1, 5, 1, 1);
        x.lodge(1);
        return x;
    }
}
