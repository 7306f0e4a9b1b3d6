/**
 * Whole lives of 512 calls, against the document told a second time (PlainCourt): every call's answer,
 * and now and then its trouble. What calls come most often changes from life to life.
 */
public final class WholeTest {
    private static final Checks c = new Checks("WholeTest");
    private static final int CALLS = 512;
    private static final int KINDS = 31;
    private static final int[] EDGES = {
        Integer.MIN_VALUE, Integer.MAX_VALUE, -2, -1, 0, 1, 3, 4, 5, 8, 9, 10, 19, 20, 21, 48, 49, 59, 60, 99, 100,
        199, 200, 400, 401, 999, 1000, 1000000, 1000001};
    private static final String[] WORDS = {
        "rank", "mouths", "horses", "day", "mud", "feast", "when", "and", "eats", "feeds", "bread", "x", "abcdefghi",
        "0", "1", "2", "5", "12", "999", "1000", "<", ">", "=", "+", "*", ";", " ", "-", "R", "\u00e9"};

    private final CourtProgress x = new CourtProgress();
    private final PlainCourt plain = new PlainCourt();
    private final Dice dice;
    private final int[] often = new int[KINDS];
    private final int edges;
    private final int most;
    private final int ranks;
    private final int houses;
    private final int worths;
    private final int walks;
    private int calls;

    private WholeTest(int seed) {
        dice = new Dice(seed);
        edges = 5 + dice.below(60);
        most = 1 + dice.below(dice.once(2) ? 8 : 4);
        houses = 1 + dice.below(4);
        ranks = 1 + dice.below(9);
        worths = 1 + dice.below(9);
        walks = 1 + dice.below(dice.once(2) ? 3 : 99);
        for (int kind = 0; kind < KINDS; kind++) {
            often[kind] = dice.once(4) ? 1 : 1 + dice.below(8);
        }
        if (dice.once(3)) {
            often[dice.below(KINDS)] = 100;
        }
    }

    public static void main(String[] args) {
        int from = args.length > 0 ? Integer.parseInt(args[0]) : 0;
        int lives = args.length > 1 ? Integer.parseInt(args[1]) : 400;
        for (int life = from; life < from + lives && !c.isWrong(); life++) {
            new WholeTest(life).live(life);
        }
        c.end();
    }

    private void live(int life) {
        if (dice.below(5) > 0) {
            settle();
        }
        while (calls < CALLS && !c.isWrong()) {
            call("life " + life + ", call " + calls + ": ", kind());
            if (calls < CALLS && dice.once(3)) {
                due("life " + life + ", call " + calls + ": trouble()", x.trouble(), plain.trouble());
            }
        }
    }

    /** A land to begin with, so that the calls meet something. */
    private void settle() {
        int size = 1 + dice.below(9);
        for (int p = 0; p < size; p++) {
            int store = dice.below(dice.once(2) ? 3000 : 100000);
            int owes = dice.once(2) ? store : dice.below(3000);
            int stalls = dice.below(200);
            due("place", x.place(store, owes, stalls), plain.place(store, owes, stalls));
            for (int q = 0; q < p; q++) {
                int hours = dice.once(3) ? 0 : 1 + dice.below(dice.once(2) ? 4 : 20);
                due("way", x.way(p, q, hours) ? 1 : 0, plain.way(p, q, hours) ? 1 : 0);
            }
        }
        for (int h = dice.below(most + 1); h > 0; h--) {
            addHousehold("household");
        }
        int lodgings = 1 + dice.below(dice.once(2) ? 1 : size);
        for (int r = dice.once(4) ? dice.below(9) : 8 * lodgings; r > 0; r--) {
            addRoom("room", dice.below(lodgings));
        }
        for (int f = dice.once(2) ? 0 : dice.below(5); f > 0; f--) {
            int day = dice.below(16);
            int host = dice.below(size);
            due("feast", x.feast(day, host) ? 1 : 0, plain.feast(day, host) ? 1 : 0);
        }
        ordain("ordinance", 0, soundText());
    }

    private void due(String call, int got, int want) {
        c.due(call, got, want);
        calls++;
    }

    private int kind() {
        int all = 0;
        for (int many : often) {
            all += many;
        }
        int left = dice.below(all);
        int kind = 0;
        while (left >= often[kind]) {
            left -= often[kind];
            kind++;
        }
        return kind;
    }

    private int number(int least, int greatest) {
        return dice.once(edges) ? EDGES[dice.below(EDGES.length)] : least + dice.below(greatest - least + 1);
    }

    private int place() {
        return number(0, Math.max(0, plain.count(1) - 1));
    }

    private int household() {
        return number(0, Math.max(0, plain.count(0) - 1));
    }

    private int soon() {
        return number(Math.max(0, plain.count(5) - 3), Math.min(199, plain.count(5) + 22));
    }

    private int day() {
        return dice.once(4) ? number(0, 199) : soon();
    }

    private void call(String at, int kind) {
        if (kind < 10) {
            tell(at, kind);
        } else if (kind < 22) {
            ask(at, kind);
        } else {
            go(at, kind);
        }
    }

    private void tell(String at, int kind) {
        int a = place();
        int b = place();
        int deep = number(0, 4);
        switch (kind) {
            case 0 -> {
                if (plain.count(0) < most || dice.once(40)) {
                    addHousehold(at + "household");
                }
            }
            case 1 -> {
                int one = household();
                int other = household();
                boolean on = !dice.once(3);
                due(at + "bar " + one + " " + other, x.bar(one, other, on) ? 1 : 0, plain.bar(one, other, on) ? 1 : 0);
            }
            case 2 -> {
                int store = number(0, 2000);
                int owes = number(0, 2000);
                int stalls = number(0, 300);
                due(at + "place", x.place(store, owes, stalls), plain.place(store, owes, stalls));
            }
            case 3 -> addRoom(at + "room", a);
            case 4 -> {
                int hours = dice.once(8) ? 0 : number(1, dice.once(2) ? 8 : 30);
                due(at + "way " + a + " " + b + " " + hours, x.way(a, b, hours) ? 1 : 0, plain.way(a, b, hours) ? 1 : 0);
            }
            case 5 -> {
                int from = soon();
                int to = dice.once(9) ? soon() : number(from, (int) Math.min(from + 12L, 210));
                due(at + "mud " + from + " " + to, x.mud(from, to, deep) ? 1 : 0, plain.mud(from, to, deep) ? 1 : 0);
            }
            case 6 -> {
                int day = soon();
                int host = dice.once(3) ? -1 : a;
                due(at + "feast " + day + " " + host, x.feast(day, host) ? 1 : 0, plain.feast(day, host) ? 1 : 0);
            }
            case 7 -> {
                int store = number(-300, 1500);
                int owes = number(-300, 1500);
                due(at + "bring " + a, x.bring(a, store, owes) ? 1 : 0, plain.bring(a, store, owes) ? 1 : 0);
            }
            case 8 -> {
                if (dice.once(6)) {
                    int n = number(0, Math.max(0, plain.count(7)));
                    int day = day();
                    due(at + "ordinance " + day + " " + n, x.ordinance(day, n), plain.ordinance(day, n));
                } else {
                    ordain(at + "ordinance", day(), dice.once(2) ? anyText() : dice.once(2) ? spoiled(soundText()) : soundText());
                }
            }
            default -> feed(at + "feed", anyText());
        }
    }

    private void addHousehold(String at) {
        int rank = number(1, ranks);
        int mouths = number(1, dice.once(2) ? 4 : 99);
        int horses = number(0, dice.once(3) ? 99 : 9);
        due(at, x.household(rank, mouths, horses), plain.household(rank, mouths, horses));
    }

    private void addRoom(String at, int p) {
        int worth = number(1, worths);
        int house = number(0, houses - 1);
        int walk = number(0, walks);
        due(at + " of " + p, x.room(p, worth, house, walk), plain.room(p, worth, house, walk));
    }

    private void feed(String at, String text) {
        for (int from = 0; from < text.length() && calls < CALLS; from += 20) {
            int[] five = new int[5];
            for (int i = 0; i < 5; i++) {
                five[i] = Texts.four(text, from + 4 * i);
            }
            due(at, x.feed(five[0], five[1], five[2], five[3], five[4]), plain.feed(five));
        }
    }

    private void ordain(String at, int day, String text) {
        if (plain.count(7) > 0) {
            due(at + " of what is left", x.ordinance(0, 0), plain.ordinance(0, 0));
        }
        feed(at, text);
        if (calls < CALLS) {
            int n = Math.min(text.length(), plain.count(7)) - (dice.once(9) ? dice.below(3) : 0);
            due(at + " '" + text + "'", x.ordinance(day, n), plain.ordinance(day, n));
        }
        if (calls + 1 < CALLS) {
            due(at + " '" + text + "', fault", x.fault(), plain.fault());
            due(at + " '" + text + "', where", x.where(), plain.where());
        }
    }

    private String anyText() {
        StringBuilder text = new StringBuilder(dice.once(2) ? "eats " : "");
        for (int i = dice.below(12); i >= 0; i--) {
            text.append(WORDS[dice.below(WORDS.length)]).append(dice.once(4) ? "" : " ");
        }
        return text.toString();
    }

    private String soundText() {
        StringBuilder text = new StringBuilder();
        int rules = 1 + dice.below(dice.once(8) ? 13 : 4);
        for (int r = 0; r < rules; r++) {
            text.append(r == 0 ? "" : dice.once(2) ? ";" : " ; ");
            if (dice.once(2)) {
                int tests = 1 + dice.below(dice.once(8) ? 5 : 3);
                for (int t = 0; t < tests; t++) {
                    text.append(t == 0 ? "when " : " and ").append(WORDS[dice.below(6)]).append(WORDS[20 + dice.below(3)]);
                    text.append(dice.below(dice.once(2) ? 10 : 120)).append(' ');
                }
            }
            text.append(dice.once(3) ? "feeds " : "eats ");
            int terms = 1 + dice.below(dice.once(8) ? 5 : 3);
            for (int t = 0; t < terms; t++) {
                text.append(t == 0 ? "" : "+");
                boolean named = dice.once(2);
                boolean numbered = !named || dice.once(2);
                text.append(numbered ? "" + dice.below(dice.once(9) ? 1000 : 4) : "").append(named && numbered ? "*" : "");
                text.append(named ? WORDS[dice.below(6)] : "");
            }
        }
        return text.toString();
    }

    private String spoiled(String text) {
        int at = dice.below(text.length());
        String in = dice.once(3) ? "" : WORDS[dice.below(WORDS.length)];
        return text.substring(0, at) + in + text.substring(Math.min(text.length(), at + dice.below(3)));
    }

    private void ask(String at, int kind) {
        int day = day();
        int p = place();
        int h = household();
        switch (kind) {
            case 10 -> due(at + "force " + day, x.force(day), plain.force(day));
            case 11 -> {
                boolean horse = dice.once(2);
                due(at + "eats " + h + " " + day, x.eats(h, day, horse), plain.eats(h, day, horse));
            }
            case 12 -> due(at + "need " + day, x.need(day), plain.need(day));
            case 13 -> due(at + "lodged " + h, x.lodged(h), plain.lodged(h));
            case 14 -> due(at + "at " + day, x.at(day), plain.at(day));
            case 15 -> {
                int what = number(0, 4);
                due(at + "about " + p + " " + what, x.about(p, what), plain.about(p, what));
            }
            case 16 -> due(at + "was " + day, x.was(day), plain.was(day));
            case 17 -> due(at + "lacked " + day, x.lacked(day), plain.lacked(day));
            case 18 -> {
                int plea = number(0, 59);
                due(at + "heard " + plea, x.heard(plea), plain.heard(plea));
            }
            case 19 -> {
                int i = number(0, Math.max(0, plain.count(4)));
                due(at + "next " + i, x.next(i), plain.next(i));
            }
            case 20 -> {
                int what = number(0, 7);
                due(at + "count " + what, x.count(what), plain.count(what));
            }
            default -> {
                due(at + "fault", x.fault(), plain.fault());
                if (calls < CALLS) {
                    due(at + "where", x.where(), plain.where());
                }
            }
        }
    }

    private void go(String at, int kind) {
        int p = place();
        switch (kind) {
            case 22 -> {
                due(at + "lodge " + p, x.lodge(p), plain.lodge(p));
                for (int h = 0; h < plain.count(0) && calls < CALLS && dice.below(3) > 0; h++) {
                    due(at + "lodged " + h, x.lodged(h), plain.lodged(h));
                }
            }
            case 23 -> due(at + "why " + p, x.why(p), plain.why(p));
            case 24 -> {
                int last = plain.count(5) + number(0, dice.once(2) ? 20 : 8);
                due(at + "route " + last, x.route(last), plain.route(last));
                for (int day = plain.count(5); day <= last && calls < CALLS && dice.below(6) > 0; day++) {
                    due(at + "at " + day, x.at(day), plain.at(day));
                }
            }
            case 25 -> due(at + "lasts", x.lasts(), plain.lasts());
            case 26, 27 -> {
                int to = dice.once(2) ? plain.count(6) : p;
                due(at + "step " + to, x.step(to), plain.step(to));
            }
            case 28, 29 -> {
                int worth = number(0, dice.once(2) ? 9 : 99);
                due(at + "plea " + worth, x.plea(worth), plain.plea(worth));
            }
            default -> {
                int many = number(1, 9);
                due(at + "hear " + many, x.hear(many), plain.hear(many));
            }
        }
    }
}
