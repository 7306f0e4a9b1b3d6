import java.util.ArrayList;
import java.util.List;

/** Promises 27 to 30: pleas and their turns. */
public final class PleaTest {
    private static final Checks c = new Checks("PleaTest");

    public static void main(String[] args) {
        bounds();
        turns();
        manyRuns();
        c.end();
    }

    private static void bounds() {
        CourtProgress x = new CourtProgress();
        c.due(x, "plea(-1)", x.plea(-1), -1, 2);
        c.due(x, "plea(100)", x.plea(100), -1, 2);
        c.due(x, "hear(0)", x.hear(0), -1, 2);
        c.due(x, "hear(10)", x.hear(10), -1, 2);
        c.due(x, "hear(-1)", x.hear(-1), -1, 2);
        c.due(x, "hear(1) of none", x.hear(1), 0, 0);
        for (int p = 0; p < 60; p++) {
            c.due(x, "plea", x.plea(p % 2 == 0 ? 0 : 99), p, 0);
        }
        c.due(x, "a 61st", x.plea(5), -1, 3);
        c.due(x, "a 61st with a wrong number", x.plea(100), -1, 2);
        c.due(x, "hear(9)", x.hear(9), 9, 0);
        c.due(x, "still a 61st", x.plea(5), -1, 3);
        c.due("count(4)", x.count(4), 51);
        c.due("heard(1)", x.heard(1), 0);
        c.due("heard(0)", x.heard(0), -2);
        c.due("heard(60)", x.heard(60), -1);
        c.due("heard(-1)", x.heard(-1), -1);
        c.due("next(0)", x.next(0), 19);
        c.due("next(50)", x.next(50), 58);
        c.due("next(51)", x.next(51), -1);
        c.due("next(-1)", x.next(-1), -1);
        c.due("next(MIN)", x.next(Integer.MIN_VALUE), -1);
    }

    private static void turns() {
        CourtProgress x = new CourtProgress();
        x.place(0, 0, 0);
        x.plea(3);
        x.step(0);
        x.step(0);
        x.plea(5);
        x.plea(6);
        x.plea(5);
        int[] turns = {2, 0, 1, 3};
        for (int i = 0; i < turns.length; i++) {
            c.due("next(" + i + ")", x.next(i), turns[i]);
        }
        c.due(x, "hear(2)", x.hear(2), 2, 0);
        c.due("heard(2)", x.heard(2), 2);
        c.due("heard(0)", x.heard(0), 2);
        c.due("heard(1)", x.heard(1), -2);
        x.step(0);
        c.due(x, "hear(9)", x.hear(9), 2, 0);
        c.due("heard(1)", x.heard(1), 3);
        c.due("heard(0) still", x.heard(0), 2);
        c.due("next(0)", x.next(0), -1);
    }

    /** Against the document's words, told plainly: worth and one more for each day, of like ones the elder. */
    private static void manyRuns() {
        Dice dice = new Dice(5);
        for (int run = 0; run < 300 && !c.isWrong(); run++) {
            CourtProgress x = new CourtProgress();
            x.place(0, 0, 0);
            List<int[]> waiting = new ArrayList<>();
            int pleas = 0;
            int today = 0;
            for (int call = 0; call < 100; call++) {
                int kind = dice.below(4);
                if (kind == 0) {
                    x.step(0);
                    today++;
                } else if (kind == 1 && pleas < 60) {
                    int worth = dice.below(run % 2 == 0 ? 8 : 100);
                    c.due("plea", x.plea(worth), pleas);
                    waiting.add(new int[] {pleas++, worth, today});
                } else if (kind == 2) {
                    int i = dice.below(waiting.size() + 1);
                    c.due("next", x.next(i), i < waiting.size() ? inTurn(waiting, today, i) : -1);
                } else {
                    hearSome(x, waiting, today, 1 + dice.below(2));
                }
                c.due("count(4)", x.count(4), waiting.size());
            }
        }
    }

    private static void hearSome(CourtProgress x, List<int[]> waiting, int today, int many) {
        List<Integer> first = new ArrayList<>();
        for (int i = 0; i < Math.min(many, waiting.size()); i++) {
            first.add(inTurn(waiting, today, i));
        }
        c.due("hear", x.hear(many), first.size());
        for (int p : first) {
            c.due("heard", x.heard(p), today);
        }
        waiting.removeIf(p -> first.contains(p[0]));
        if (!waiting.isEmpty()) {
            c.due("heard", x.heard(waiting.get(0)[0]), -2);
        }
    }

    private static int inTurn(List<int[]> waiting, int today, int i) {
        List<int[]> left = new ArrayList<>(waiting);
        int[] best = null;
        for (int turn = 0; turn <= i; turn++) {
            best = null;
            for (int[] p : left) {
                if (best == null || p[1] + today - p[2] > best[1] + today - best[2]) {
                    best = p;
                }
            }
            left.remove(best);
        }
        return best == null ? -1 : best[0];
    }
}
