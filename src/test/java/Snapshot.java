/** All that can be asked of an object without changing it, in one row: to see that a refused call changed nothing. */
final class Snapshot {
    private Snapshot() {
    }

    static int[] of(CourtProgress x) {
        int[] all = new int[3000];
        int n = 0;
        for (int what = 0; what < 8; what++) {
            all[n++] = x.count(what);
        }
        for (int p = 0; p < 9; p++) {
            for (int what = 0; what < 5; what++) {
                all[n++] = x.about(p, what);
            }
        }
        for (int day = 0; day < 200; day++) {
            all[n++] = x.need(day);
            all[n++] = x.force(day);
            all[n++] = x.was(day);
            all[n++] = x.lacked(day);
            all[n++] = x.at(day);
        }
        for (int h = 0; h < 8; h++) {
            all[n++] = x.lodged(h);
            all[n++] = x.eats(h, 7, false);
            all[n++] = x.eats(h, 7, true);
        }
        for (int p = 0; p < 60; p++) {
            all[n++] = x.heard(p);
            all[n++] = x.next(p);
        }
        all[n] = x.fault();
        return all;
    }
}
