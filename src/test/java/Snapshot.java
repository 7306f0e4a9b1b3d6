/**
 * What an object answers, in one row: to see that a refused call changed nothing. The last questions
 * change the object, and all of them are some 300 calls: it is asked once, and not used again.
 */
final class Snapshot {
    private final CourtProgress x;
    private final int[] all = new int[500];
    private int size;

    private Snapshot(CourtProgress x) {
        this.x = x;
    }

    static int[] of(CourtProgress x) {
        Snapshot s = new Snapshot(x);
        s.counts();
        s.days();
        s.householdsAndPleas();
        s.plans();
        s.text();
        return s.all;
    }

    private void add(int answer) {
        all[size++] = answer;
    }

    private void counts() {
        for (int what = 0; what < 8; what++) {
            add(x.count(what));
        }
        for (int p = 0; p < 9; p++) {
            for (int what = 0; what < 5; what++) {
                add(x.about(p, what));
            }
        }
        add(x.fault());
    }

    /** The first days, and some of the later ones. */
    private void days() {
        for (int i = 0; i < 28; i++) {
            int day = i < 16 ? i : Math.min(199, 16 + (i - 16) * 17);
            add(x.need(day));
            add(x.force(day));
            add(x.was(day));
            add(x.lacked(day));
            add(x.at(day));
        }
    }

    private void householdsAndPleas() {
        for (int h = 0; h < 8; h++) {
            add(x.lodged(h));
            add(x.eats(h, 7, false));
            add(x.eats(h, 7, true));
        }
        for (int p = 0; p < 60; p += p < 8 ? 1 : 10) {
            add(x.heard(p));
            add(x.next(p));
        }
    }

    private void plans() {
        add(x.lasts());
        for (int p = 0; p < 9; p++) {
            add(x.why(p));
            add(x.lodge(p));
        }
        int today = x.count(5);
        add(x.route(Math.min(199, today + 20)));
        for (int i = 0; i <= 20; i++) {
            add(x.at(today + i));
        }
    }

    private void text() {
        add(x.ordinance(0, x.count(7)));
        add(x.fault());
        add(x.where());
        add(x.need(0));
    }
}
