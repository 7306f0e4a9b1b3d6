/** Promises 17 to 19: lodgings, by hand and against every lodging there is. */
public final class LodgingTest {
    private static final Checks c = new Checks("LodgingTest");

    public static void main(String[] args) {
        refusals();
        reasons();
        ranksAndBars();
        latestLodging();
        lesserRooms();
        againstAll(3000, 4, 6);
        againstAll(60, 7, 8);
        againstAll(4, 8, 10);
        hardest();
        c.end();
    }

    private static void refusals() {
        CourtProgress x = new CourtProgress();
        c.due(x, "lodge at no place", x.lodge(0), -1, 1);
        c.due(x, "why at no place", x.why(0), -1, 1);
        x.place(0, 0, 0);
        c.due(x, "lodge of no household", x.lodge(0), 0, 0);
        c.due(x, "why of no household", x.why(0), 0, 0);
        c.due("lodged(0)", x.lodged(0), -1);
        c.due(x, "lodge(-1)", x.lodge(-1), -1, 1);
        c.due(x, "lodge(1)", x.lodge(1), -1, 1);
        c.due(x, "why(-1)", x.why(-1), -1, 1);
        c.due(x, "why(MAX)", x.why(Integer.MAX_VALUE), -1, 1);
        x.household(1, 1, 0);
        c.due(x, "lodge without rooms", x.lodge(0), -1, 6);
        c.due(x, "why without rooms", x.why(0), 1, 0);
    }

    private static void reasons() {
        CourtProgress x = new CourtProgress();
        x.household(5, 1, 3);
        x.household(4, 1, 4);
        x.place(0, 0, 6);
        x.room(0, 5, 0, 1);
        c.due("rooms come before stalls", x.why(0), 1);
        x.room(0, 4, 0, 1);
        c.due("stalls", x.why(0), 2);
        c.due(x, "lodge without stalls", x.lodge(0), -1, 6);
        x.bar(0, 1, true);
        c.due("stalls come before bars", x.why(0), 2);
        x.place(0, 0, 7);
        x.room(1, 5, 0, 1);
        x.room(1, 5, 0, 1);
        c.due("bars", x.why(1), 3);
        c.due(x, "lodge by bars", x.lodge(1), -1, 6);
        x.bar(0, 1, false);
        c.due("as many stalls as horses", x.why(1), 0);
        x.bar(0, 1, true);
        x.household(6, 1, 0);
        x.place(0, 0, 7);
        // Household 2 must have the room of the most worth, but it is in the house of the least.
        x.bar(2, 1, true);
        x.room(2, 9, 0, 1);
        x.room(2, 5, 1, 1);
        x.room(2, 2, 0, 1);
        c.due("ranks", x.why(2), 4);
        c.due(x, "lodge by ranks", x.lodge(2), -1, 6);
        x.room(2, 2, 2, 9);
        c.due("a room more", x.why(2), 0);
        c.due(x, "lodge in it", x.lodge(2), 11, 0);
    }

    private static void ranksAndBars() {
        CourtProgress x = new CourtProgress();
        x.household(5, 10, 0);
        x.household(5, 20, 0);
        x.place(0, 0, 0);
        x.room(0, 1, 0, 10);
        x.room(0, 9, 0, 0);
        c.due("of one rank any may have more worth", x.lodge(0), 100);
        c.due("lodged(0)", x.lodged(0), 0);
        c.due("lodged(1)", x.lodged(1), 1);
        x.household(6, 1, 0);
        x.room(0, 9, 1, 50);
        c.due("one of higher rank has as much worth", x.lodge(0), 150);
        c.due("lodged(2)", x.lodged(2), 2);
        x.bar(0, 1, true);
        // One of them has room 2, of worth 9: so household 2 must have room 1.
        c.due("barred ones have rooms of two houses", x.lodge(0), 20 * 10 + 10 * 50);
        c.due("lodged(0)", x.lodged(0), 2);
        c.due("lodged(1)", x.lodged(1), 0);
        c.due("lodged(2)", x.lodged(2), 1);
        x.room(0, 8, 2, 30);
        c.due("a room of a third house", x.lodge(0), 10 * 30 + 50);
        c.due("lodged(0)", x.lodged(0), 3);
        c.due("lodged(1)", x.lodged(1), 1);
        c.due("lodged(2)", x.lodged(2), 2);
    }

    private static void latestLodging() {
        CourtProgress x = new CourtProgress();
        x.household(1, 1, 0);
        x.place(0, 0, 0);
        x.place(0, 0, 0);
        x.room(0, 1, 0, 9);
        x.room(0, 1, 0, 3);
        c.due("lodge(0)", x.lodge(0), 3);
        c.due("lodged(0)", x.lodged(0), 1);
        x.lodge(1);
        x.why(0);
        x.lodge(7);
        c.due("lodged(0) of the latest that told a number", x.lodged(0), 1);
        x.household(1, 1, 0);
        c.due("lodged(1) of one that came later", x.lodged(1), -1);
        c.due("lodge(0)", x.lodge(0), 12);
        c.due("lodged(0)", x.lodged(0), 0);
        c.due("lodged(1)", x.lodged(1), 1);
        c.due("lodged(2)", x.lodged(2), -1);
        c.due("lodged(-1)", x.lodged(-1), -1);
        c.due("lodged(8)", x.lodged(8), -1);
        c.due("lodged(MAX)", x.lodged(Integer.MAX_VALUE), -1);
    }

    private static void lesserRooms() {
        CourtProgress x = new CourtProgress();
        for (int h = 0; h < 8; h++) {
            x.household(1 + h, 99, 0);
        }
        x.place(0, 0, 0);
        for (int r = 0; r < 10; r++) {
            x.room(0, 5, r % 4, 99);
        }
        c.due("the greatest sum", x.lodge(0), 8 * 99 * 99);
        for (int h = 0; h < 8; h++) {
            c.due("lodged(" + h + ")", x.lodged(h), h);
        }
        x.bar(0, 4, true);
        x.bar(1, 5, true);
        x.lodge(0);
        int[] rooms = {0, 1, 2, 3, 5, 4, 6, 7};
        for (int h = 0; h < 8; h++) {
            c.due("lodged(" + h + ") with bars", x.lodged(h), rooms[h]);
        }
    }

    private static void againstAll(int runs, int households, int rooms) {
        Dice dice = new Dice(households * 100 + rooms);
        for (int run = 0; run < runs && !c.isWrong(); run++) {
            CourtProgress x = new CourtProgress();
            EveryLodging every = new EveryLodging(1 + dice.below(households), dice.below(rooms + 1));
            every.throwDice(dice);
            every.tell(x);
            every.tryAll(true);
            String what = "run " + run + " of " + households + " households, ";
            c.due(x, what + "lodge", x.lodge(0), every.best, every.best < 0 ? 6 : 0);
            for (int h = 0; h < every.households; h++) {
                c.due(what + "lodged(" + h + ")", x.lodged(h), every.best < 0 ? -1 : every.bestRooms[h]);
            }
            c.due(x, what + "why", x.why(0), every.reason(), 0);
        }
    }

    /** No lodging, but much to try: it must not take long. */
    private static void hardest() {
        CourtProgress x = new CourtProgress();
        for (int h = 0; h < 8; h++) {
            x.household(1, 10 + h, 0);
        }
        x.place(0, 0, 0);
        for (int r = 0; r < 10; r++) {
            x.room(0, 1 + r % 9, 0, r);
        }
        x.bar(6, 7, true);
        c.due("why with one house", x.why(0), 3);
        for (int h = 0; h < 8; h++) {
            for (int g = 3; g < h; g++) {
                x.bar(g, h, true);
            }
        }
        x.place(0, 0, 0);
        for (int r = 0; r < 10; r++) {
            x.room(1, 1 + r % 9, r % 4, r);
        }
        c.due("why with five barred in four houses", x.why(1), 3);
    }

    private static final class EveryLodging {
        final int households;
        final int rooms;
        final int[] rank;
        final int[] mouths;
        final boolean[][] barred;
        final int[] worth;
        final int[] house;
        final int[] walk;
        final int[] room;
        final int[] bestRooms;
        int horses;
        int stalls;
        int best;
        boolean ranked;

        EveryLodging(int households, int rooms) {
            this.households = households;
            this.rooms = rooms;
            rank = new int[households];
            mouths = new int[households];
            barred = new boolean[households][households];
            worth = new int[rooms];
            house = new int[rooms];
            walk = new int[rooms];
            room = new int[households];
            bestRooms = new int[households];
        }

        void throwDice(Dice dice) {
            int ranks = 1 + dice.below(9);
            int worths = 1 + dice.below(9);
            int houses = 1 + dice.below(4);
            int walks = 1 + dice.below(dice.once(2) ? 4 : 100);
            int most = 1 + dice.below(dice.once(2) ? 3 : 99);
            int bars = 1 + dice.below(8);
            for (int h = 0; h < households; h++) {
                rank[h] = 1 + dice.below(ranks);
                mouths[h] = 1 + dice.below(most);
                for (int g = 0; g < h; g++) {
                    barred[h][g] = dice.once(bars);
                    barred[g][h] = barred[h][g];
                }
            }
            for (int r = 0; r < rooms; r++) {
                worth[r] = 1 + dice.below(worths);
                house[r] = dice.below(houses);
                walk[r] = dice.below(walks);
            }
            horses = dice.below(3);
            stalls = dice.below(30);
        }

        void tell(CourtProgress x) {
            for (int h = 0; h < households; h++) {
                x.household(rank[h], mouths[h], horses);
                for (int g = 0; g < h; g++) {
                    x.bar(h, g, barred[h][g]);
                }
            }
            x.place(0, 0, stalls);
            for (int r = 0; r < rooms; r++) {
                x.room(0, worth[r], house[r], walk[r]);
            }
        }

        void tryAll(boolean withRanks) {
            best = -1;
            ranked = withRanks;
            if (horses * households <= stalls) {
                tryFrom(0, 0);
            }
        }

        // In the order of rooms: of like sums the first one found is the best one.
        private void tryFrom(int h, int sum) {
            if (h == households) {
                if (best < 0 || sum < best) {
                    best = sum;
                    System.arraycopy(room, 0, bestRooms, 0, households);
                }
                return;
            }
            for (int r = 0; r < rooms; r++) {
                room[h] = r;
                if (mayStand(h)) {
                    tryFrom(h + 1, sum + mouths[h] * walk[r]);
                }
            }
        }

        private boolean mayStand(int h) {
            for (int g = 0; g < h; g++) {
                boolean above = rank[g] > rank[h] && worth[room[g]] < worth[room[h]];
                boolean below = rank[g] < rank[h] && worth[room[g]] > worth[room[h]];
                boolean together = barred[g][h] && house[room[g]] == house[room[h]];
                if (room[g] == room[h] || together || ranked && (above || below)) {
                    return false;
                }
            }
            return true;
        }

        int reason() {
            if (best >= 0) {
                return 0;
            }
            if (rooms < households) {
                return 1;
            }
            if (horses * households > stalls) {
                return 2;
            }
            tryAll(false);
            return best < 0 ? 3 : 4;
        }
    }
}
