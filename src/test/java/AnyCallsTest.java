import java.util.Arrays;

/**
 * Runs of 512 calls with any arguments: none throws, two objects with the same calls answer alike,
 * and a refused call changes nothing that can be asked for.
 */
public final class AnyCallsTest {
    private static final Checks c = new Checks("AnyCallsTest");
    private static final int[] EDGES = {Integer.MIN_VALUE, Integer.MAX_VALUE, -2, -1, 0, 1, 8, 9, 10, 20, 199, 200, 400, 1000000, 1000001};
    private static final String[] PIECES = {"eats 1", "eats rank", "feeds 2*horses", ";", "+", "*", "when mud > 1 ", "and ", "day", "x", " ", "7", "<", "when day < 9 eats 2"};

    public static void main(String[] args) {
        for (int run = 0; run < 400 && !c.isWrong(); run++) {
            run(run);
        }
        c.end();
    }

    private static void run(int seed) {
        CourtProgress one = new CourtProgress();
        CourtProgress other = new CourtProgress();
        Dice dice = new Dice(seed);
        Dice like = new Dice(seed);
        for (int call = 0; call < 512 && !c.isWrong(); call++) {
            boolean looks = call % 16 == 0;
            int[] before = looks ? Snapshot.of(one) : null;
            boolean refusable = looks && call % 32 == 0;
            long got = refusable ? wrongCall(one, dice) : anyCall(one, dice);
            long again = refusable ? wrongCall(other, like) : anyCall(other, like);
            c.due("call " + call + " of run " + seed + " again", again, got);
            c.due("trouble()", one.trouble(), other.trouble());
            c.due("trouble() is 0 to 6", one.trouble() >= 0 && one.trouble() <= 6, true);
            if (refusable) {
                c.due("a refused call", one.trouble() != 0, true);
                c.due("what a refused call changes", Arrays.equals(before, Snapshot.of(one)), true);
            }
        }
        c.due("the end of run " + seed, Arrays.equals(Snapshot.of(one), Snapshot.of(other)), true);
    }

    private static int number(Dice dice, int least, int most) {
        return dice.once(12) ? EDGES[dice.below(EDGES.length)] : least + dice.below(most - least + 1);
    }

    private static long anyCall(CourtProgress x, Dice dice) {
        switch (dice.below(32)) {
            case 0: return x.household(number(dice, 1, 9), number(dice, 1, 99), number(dice, 0, 99));
            case 1: return x.bar(number(dice, 0, 7), number(dice, 0, 7), dice.once(2)) ? 1 : 0;
            case 2: return x.place(number(dice, 0, 90000), number(dice, 0, 90000), number(dice, 0, 999));
            case 3:
            case 4: return x.room(number(dice, 0, 8), number(dice, 1, 9), number(dice, 0, 3), number(dice, 0, 99));
            case 5:
            case 6: return x.way(number(dice, 0, 8), number(dice, 0, 8), number(dice, 0, 20)) ? 1 : 0;
            case 7: return x.mud(number(dice, 0, 50), number(dice, 0, 199), number(dice, 0, 4)) ? 1 : 0;
            case 8: return x.feast(number(dice, 0, 60), number(dice, -1, 8)) ? 1 : 0;
            case 9: return x.bring(number(dice, 0, 8), number(dice, -900, 9000), number(dice, -900, 9000)) ? 1 : 0;
            case 10:
            case 11: return Texts.feed(x, PIECES[dice.below(PIECES.length)]);
            case 12: return x.ordinance(number(dice, 0, 60), number(dice, 0, 60));
            case 13: return x.fault();
            case 14: return x.where();
            case 15: return x.force(number(dice, 0, 199));
            case 16: return x.eats(number(dice, 0, 7), number(dice, 0, 199), dice.once(2));
            case 17: return x.need(number(dice, 0, 199));
            case 18: return x.lodge(number(dice, 0, 8));
            case 19: return x.lodged(number(dice, 0, 7));
            case 20: return x.why(number(dice, 0, 8));
            case 21: return x.route(x.count(5) + number(dice, 0, 20));
            case 22: return x.at(number(dice, 0, 60));
            case 23: return x.lasts();
            case 24: return x.step(number(dice, 0, 8));
            case 25: return x.about(number(dice, 0, 8), number(dice, 0, 5));
            case 26: return x.was(number(dice, 0, 60));
            case 27: return x.lacked(number(dice, 0, 60));
            case 28: return x.plea(number(dice, 0, 99));
            case 29: return x.hear(number(dice, 1, 9));
            case 30: return x.heard(number(dice, 0, 59));
            default: return dice.once(2) ? x.next(number(dice, 0, 20)) : x.count(number(dice, 0, 7));
        }
    }

    private static long wrongCall(CourtProgress x, Dice dice) {
        switch (dice.below(16)) {
            case 0: return x.household(10, 1, 1);
            case 1: return x.bar(0, 0, true) ? 1 : 0;
            case 2: return x.place(0, 0, 1000);
            case 3: return x.room(0, 1, 4, 0);
            case 4: return x.way(0, 1, 49) ? 1 : 0;
            case 5: return x.mud(9, 8, 1) ? 1 : 0;
            case 6: return x.feast(200, -1) ? 1 : 0;
            case 7: return x.bring(0, 1, -1000001) ? 1 : 0;
            case 8: return x.ordinance(0, 401);
            case 9: return x.lodge(9);
            case 10: return x.why(-1);
            case 11: return x.route(x.count(5) - 1);
            case 12: return x.step(9);
            case 13: return x.plea(100);
            case 14: return x.hear(10);
            default: return x.ordinance(-1, 0);
        }
    }
}
