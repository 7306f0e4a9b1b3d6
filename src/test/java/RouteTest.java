/** Promises 20 and 21: routes, by hand and against every route there is. */
public final class RouteTest {
    private static final Checks c = new Checks("RouteTest");

    public static void main(String[] args) {
        refusals();
        firstDay();
        rows();
        lesserPlaces();
        laterDays();
        againstAll(2500, 4, 8);
        againstAll(250, 6, 8);
        againstAll(150, 3, 20);
        longest();
        c.end();
    }

    private static void refusals() {
        CourtProgress x = new CourtProgress();
        c.due(x, "route without a place", x.route(0), -1, 6);
        c.due(x, "route too far, without a place", x.route(21), -1, 2);
        x.place(0, 0, 0);
        c.due(x, "route(-1)", x.route(-1), -1, 2);
        c.due(x, "route(21)", x.route(21), -1, 2);
        c.due(x, "route(MAX)", x.route(Integer.MAX_VALUE), -1, 2);
        c.due(x, "route(MIN)", x.route(Integer.MIN_VALUE), -1, 2);
        c.due("at(0)", x.at(0), -1);
        c.due(x, "route(20)", x.route(20), 0, 0);
        for (int day = 0; day <= 20; day++) {
            c.due("at(" + day + ")", x.at(day), 0);
        }
        c.due("at(21)", x.at(21), -1);
        c.due("at(-1)", x.at(-1), -1);
        c.due("at(MAX)", x.at(Integer.MAX_VALUE), -1);
        c.due("at(MIN)", x.at(Integer.MIN_VALUE), -1);
        x.step(0);
        c.due(x, "route to yesterday", x.route(0), -1, 2);
    }

    private static void firstDay() {
        CourtProgress x = new CourtProgress();
        x.place(10, 10, 0);
        x.place(100, 100, 0);
        x.way(0, 1, 1);
        x.feast(0, 1);
        c.due(x, "a feast today at another place", x.route(3), -1, 6);
        c.due(x, "even of one day", x.route(0), -1, 6);
        x.feast(0, -1);
        x.household(1, 11, 0);
        Texts.ordain(x, 0, "eats 1");
        c.due(x, "not enough today", x.route(0), -1, 6);
        x.bring(0, 1, 0);
        c.due(x, "not owed today", x.route(0), -1, 6);
        x.bring(0, 0, 1);
        c.due(x, "enough today", x.route(0), 0, 0);
        c.due(x, "then it goes", x.route(9), 1, 0);
        c.due("at(0)", x.at(0), 0);
        c.due("at(1)", x.at(1), 1);
        c.due("at(9)", x.at(9), 1);
        c.due(x, "no more there either", x.route(10), -1, 6);
        c.due("at(9) of the latest that told a number", x.at(9), 1);
    }

    private static void rows() {
        CourtProgress x = new CourtProgress();
        x.place(100, 100, 0);
        x.place(100, 100, 0);
        x.way(0, 1, 1);
        x.feast(1, 1);
        x.feast(2, 0);
        c.due(x, "the first place is not come to again", x.route(2), -1, 6);
        x.place(100, 100, 0);
        x.way(0, 2, 1);
        x.way(1, 2, 1);
        x.feast(2, 2);
        x.feast(3, 1);
        c.due(x, "none is come to twice", x.route(3), -1, 6);
        x.feast(3, -1);
        c.due(x, "by two ways", x.route(3), 2, 0);
        x.way(1, 2, 17);
        c.due(x, "a way too long", x.route(3), -1, 6);
        x.way(1, 2, 16);
        c.due(x, "a way of a whole day", x.route(3), 17, 0);
        c.due(x, "steps do not change the route", x.step(1), 0, 0);
        c.due("at(0)", x.at(0), 0);
        c.due("at(3)", x.at(3), 2);
    }

    private static void lesserPlaces() {
        CourtProgress x = new CourtProgress();
        for (int p = 0; p < 4; p++) {
            x.place(10, 10, 0);
        }
        x.way(0, 1, 3);
        x.way(0, 2, 3);
        x.way(1, 3, 4);
        x.way(2, 3, 4);
        x.feast(6, 3);
        c.due("route(6)", x.route(6), 7);
        // It stays at 0, the least one, as long as it can.
        int[] stops = {0, 0, 0, 0, 0, 1, 3};
        for (int day = 0; day < stops.length; day++) {
            c.due("at(" + day + ")", x.at(day), stops[day]);
        }
        x.way(0, 1, 0);
        x.route(6);
        c.due("at(5)", x.at(5), 2);
        CourtProgress y = new CourtProgress();
        for (int p = 0; p < 3; p++) {
            y.place(10, 10, 0);
        }
        y.way(0, 1, 3);
        y.way(1, 2, 3);
        y.step(0);
        y.step(1);
        y.step(2);
        y.feast(6, 0);
        c.due("route from 2 to 0", y.route(6), 6);
        int[] back = {2, 1, 0, 0};
        for (int i = 0; i < back.length; i++) {
            c.due("at(" + (3 + i) + ")", y.at(3 + i), back[i]);
        }
    }

    private static void laterDays() {
        CourtProgress x = new CourtProgress();
        x.place(0, 0, 0);
        for (int day = 0; day < 190; day++) {
            x.step(0);
        }
        c.due(x, "route(199)", x.route(199), 0, 0);
        c.due(x, "route(200)", x.route(200), -1, 2);
        c.due(x, "route(210)", x.route(210), -1, 2);
        c.due("at(189)", x.at(189), -1);
        c.due("at(190)", x.at(190), 0);
        c.due("at(199)", x.at(199), 0);
        c.due("at(200)", x.at(200), -1);
    }

    private static void againstAll(int runs, int places, int days) {
        Dice dice = new Dice(places * 100 + days);
        for (int run = 0; run < runs && !c.isWrong(); run++) {
            CourtProgress x = new CourtProgress();
            EveryRoute every = new EveryRoute(1 + dice.below(places), dice.below(days + 1));
            every.throwDice(dice, x);
            every.tryAll(x);
            String what = "run " + run + " of " + places + " places, ";
            c.due(x, what + "route", x.route(every.last), every.best, every.best < 0 ? 6 : 0);
            for (int day = 0; day < 40; day++) {
                boolean told = every.best >= 0 && day >= every.first && day <= every.last;
                c.due(what + "at(" + day + ")", x.at(day), told ? every.bestStops[day] : -1);
            }
        }
    }

    private static void longest() {
        CourtProgress x = new CourtProgress();
        x.household(1, 1, 0);
        Texts.ordain(x, 0, "eats 1");
        for (int p = 0; p < 9; p++) {
            x.place(p < 3 ? 3 : 2, 9, 0);
            for (int q = 0; q < p; q++) {
                x.way(p, q, p + q == 9 ? 1 : 16);
            }
        }
        // 21 days: every place, as long as it lasts.
        c.due(x, "route through all places", x.route(20), 4 + 4 * 16, 0);
        int days = 0;
        for (int day = 0; day <= 20; day++) {
            days += x.at(day) < 3 ? 1 : 0;
        }
        c.due("days at places 0 to 2", days, 9);
        x.bring(8, -1, 0);
        c.due(x, "a day too many", x.route(20), -1, 6);
        c.due(x, "a day less", x.route(19), 4 + 4 * 16, 0);
    }

    private static final class EveryRoute {
        final int places;
        final int span;
        int first;
        int last;
        final int[][] ways;
        final int[] cap;
        final int[] feast = new int[40];
        final int[] mud = new int[40];
        final int[] need = new int[40];
        final int[] stops = new int[40];
        final int[] bestStops = new int[40];
        int best = -1;

        EveryRoute(int places, int span) {
            this.places = places;
            this.span = span;
            ways = new int[places][places];
            cap = new int[places];
        }

        void throwDice(Dice dice, CourtProgress x) {
            x.household(1, 1 + dice.below(5), 0);
            Texts.ordain(x, 0, "when day > " + dice.below(9) + " eats " + dice.below(3) + "; eats mud + feast +" + dice.below(3));
            int most = 1 + dice.below(40);
            for (int p = 0; p < places; p++) {
                x.place(dice.below(most * 2), dice.below(most * 3), 0);
            }
            int longest = dice.once(2) ? 4 : 20;
            for (int p = 0; p < places; p++) {
                for (int q = 0; q < p; q++) {
                    ways[p][q] = dice.once(4) ? 0 : 1 + dice.below(longest);
                    ways[q][p] = ways[p][q];
                    x.way(p, q, ways[p][q]);
                }
            }
            int deepest = 1 + dice.below(5);
            for (int day = 0; day < 40; day++) {
                mud[day] = dice.below(deepest);
                x.mud(day, day, mud[day]);
                feast[day] = -1;
            }
            int steps = dice.below(3);
            for (int s = 0; s < steps; s++) {
                x.step(dice.below(places));
            }
            first = x.count(5);
            last = first + span;
            int feasts = dice.below(4);
            for (int f = 0; f < feasts; f++) {
                int day = first + dice.below(span + 1);
                feast[day] = dice.below(places);
                x.feast(day, feast[day]);
            }
        }

        void tryAll(CourtProgress x) {
            for (int p = 0; p < places; p++) {
                cap[p] = Math.min(x.about(p, 0), x.about(p, 1));
            }
            for (int day = first; day <= last; day++) {
                need[day] = x.need(day);
            }
            tryDay(first, x.count(6), 0, 0, 0);
        }

        // In the order of places: of like hours the first one found is the best one.
        private void tryDay(int day, int place, int behind, int eaten, int hours) {
            boolean enough = eaten + need[day] <= cap[place];
            if (!enough || feast[day] >= 0 && feast[day] != place || best >= 0 && hours >= best) {
                return;
            }
            stops[day] = place;
            if (day == last) {
                best = hours;
                System.arraycopy(stops, 0, bestStops, 0, stops.length);
                return;
            }
            for (int q = 0; q < places; q++) {
                if (q == place) {
                    tryDay(day + 1, q, behind, eaten + need[day], hours);
                } else if ((behind >> q & 1) == 0 && ways[place][q] > 0) {
                    int way = ways[place][q] * (4 + mud[day]) / 4;
                    if (way <= 16) {
                        tryDay(day + 1, q, behind | 1 << place, 0, hours + way);
                    }
                }
            }
        }
    }
}
