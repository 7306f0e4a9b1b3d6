/**
 * Any calls with any arguments: none throws, two objects with the same calls answer alike, and a
 * refused call changes nothing. No object has more than 512 calls.
 */
public final class AnyCallsTest {
    private static final Checks c = new Checks("AnyCallsTest");
    private static final int[] EDGES = {Integer.MIN_VALUE, Integer.MAX_VALUE, -2, -1, 0, 1, 8, 9, 10, 20, 199, 200, 400, 1000000, 1000001};
    private static final String[] PIECES = {"eats 1", "eats rank", "feeds 2*horses", ";", "+", "*", "when mud > 1 ", "and ", "day", "x", " ", "7", "<", "when day < 9 eats 2"};

    public static void main(String[] args) {
        for (int run = 0; run < 600 && !c.isWrong(); run++) {
            alike(run);
        }
        for (int run = 0; run < 1600 && !c.isWrong(); run++) {
            refused(run);
        }
        c.end();
    }

    /** Each round is two calls at most. */
    private static void alike(int seed) {
        CourtProgress one = new CourtProgress();
        CourtProgress other = new CourtProgress();
        Dice dice = new Dice(seed);
        Dice like = new Dice(seed);
        for (int round = 0; round < 230 && !c.isWrong(); round++) {
            c.due("round " + round + " of run " + seed + " again", anyCall(other, like), anyCall(one, dice));
            if (round % 8 == 0) {
                int trouble = one.trouble();
                c.due("trouble() again", other.trouble(), trouble);
                c.due("trouble() is 0 to 6", trouble >= 0 && trouble <= 6, true);
            }
        }
    }

    private static void refused(int seed) {
        c.changesNothing("a refused call of run " + seed, () -> afterSome(new Dice(seed)), x -> {
            wrongCall(x, new Dice(-seed));
            c.due("it is refused", x.trouble() != 0, true);
        });
    }

    private static CourtProgress afterSome(Dice dice) {
        CourtProgress x = new CourtProgress();
        int rounds = dice.below(70);
        for (int round = 0; round < rounds; round++) {
            anyCall(x, dice);
        }
        return x;
    }

    private static int number(Dice dice, int least, int most) {
        return dice.once(12) ? EDGES[dice.below(EDGES.length)] : least + dice.below(most - least + 1);
    }

    private static long anyCall(CourtProgress x, Dice dice) {
        switch (dice.below(32)) {
            case 0: return x.household(number(dice, 1, 9), number(dice, 1, 99), number(dice, 0, 99));
            case 1: return x.bar(number(dice, 0, 7), number(dice, 0, 7), dice.once(2)) ? 1 : 0;
            case 2: return x.place(number(dice, 0, 90000), number(dice, 0, 90000), number(dice, 0, 999));
            case 3:
            case 4: return x.room(number(dice, 0, 8), number(dice, 1, 9), number(dice, 0, 3), number(dice, 0, 99));
            case 5:
            case 6: return x.way(number(dice, 0, 8), number(dice, 0, 8), number(dice, 0, 20)) ? 1 : 0;
            case 7: return x.mud(number(dice, 0, 50), number(dice, 0, 199), number(dice, 0, 4)) ? 1 : 0;
            case 8: return x.feast(number(dice, 0, 60), number(dice, -1, 8)) ? 1 : 0;
            case 9: return x.bring(number(dice, 0, 8), number(dice, -900, 9000), number(dice, -900, 9000)) ? 1 : 0;
            case 10:
            case 11: return Texts.feed(x, PIECES[dice.below(PIECES.length)]);
            case 12: return x.ordinance(number(dice, 0, 60), number(dice, 0, 60));
            case 13: return x.fault();
            case 14: return x.where();
            case 15: return x.force(number(dice, 0, 199));
            case 16: return x.eats(number(dice, 0, 7), number(dice, 0, 199), dice.once(2));
            case 17: return x.need(number(dice, 0, 199));
            case 18: return x.lodge(number(dice, 0, 8));
            case 19: return x.lodged(number(dice, 0, 7));
            case 20: return x.why(number(dice, 0, 8));
            case 21: return x.route(x.count(5) + number(dice, 0, 20));
            case 22: return x.at(number(dice, 0, 60));
            case 23: return x.lasts();
            case 24: return x.step(number(dice, 0, 8));
            case 25: return x.about(number(dice, 0, 8), number(dice, 0, 5));
            case 26: return x.was(number(dice, 0, 60));
            case 27: return x.lacked(number(dice, 0, 60));
            case 28: return x.plea(number(dice, 0, 99));
            case 29: return x.hear(number(dice, 1, 9));
            case 30: return x.heard(number(dice, 0, 59));
            default: return dice.once(2) ? x.next(number(dice, 0, 20)) : x.count(number(dice, 0, 7));
        }
    }

    private static long wrongCall(CourtProgress x, Dice dice) {
        switch (dice.below(16)) {
            case 0: return x.household(10, 1, 1);
            case 1: return x.bar(0, 0, true) ? 1 : 0;
            case 2: return x.place(0, 0, 1000);
            case 3: return x.room(0, 1, 4, 0);
            case 4: return x.way(0, 1, 49) ? 1 : 0;
            case 5: return x.mud(9, 8, 1) ? 1 : 0;
            case 6: return x.feast(200, -1) ? 1 : 0;
            case 7: return x.bring(0, 1, -1000001) ? 1 : 0;
            case 8: return x.ordinance(0, 401);
            case 9: return x.lodge(9);
            case 10: return x.why(-1);
            case 11: return x.route(x.count(5) - 1);
            case 12: return x.step(9);
            case 13: return x.plea(100);
            case 14: return x.hear(10);
            default: return x.ordinance(-1, 0);
        }
    }
}
