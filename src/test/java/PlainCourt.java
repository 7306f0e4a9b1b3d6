import java.util.ArrayList;
import java.util.Arrays;
import java.util.HashMap;
import java.util.List;
import java.util.Map;
import java.util.TreeMap;
import java.util.regex.Matcher;
import java.util.regex.Pattern;

/**
 * The document told a second time, as plainly as the Java library lets it: no answer is prepared
 * before it is asked for, lodgings and routes are found by going through all of them.
 */
final class PlainCourt {
    private static final int NONE = -1;
    private static final List<String> NAMES = List.of("rank", "mouths", "horses", "day", "mud", "feast");
    private static final Pattern TOKEN = Pattern.compile(" *([a-z]+|[0-9]+|[<>=+*;]|)");

    private record Household(int rank, int mouths, int horses) {
    }

    private record Room(int worth, int house, int walk) {
    }

    private record Test(int name, char sign, int number) {
    }

    private record Term(int factor, int name) {
    }

    private record Ordinance(int day, List<Rule> rules) {
    }

    private record Past(int place, int lacked) {
    }

    private record Journey(int hours, List<Integer> stops) {
    }

    private static final class Rule {
        boolean horse;
        final List<Test> tests = new ArrayList<>();
        final List<Term> terms = new ArrayList<>();
    }

    private static final class Place {
        int store;
        int owes;
        int stalls;
        int tally;
        final List<Room> rooms = new ArrayList<>();
    }

    private static final class Plea {
        int worth;
        int came;
        int heard = -2;
    }

    private final List<Household> households = new ArrayList<>();
    private final boolean[][] barred = new boolean[8][8];
    private final List<Place> places = new ArrayList<>();
    private final int[][] ways = new int[9][9];
    private final int[] mud = new int[200];
    private final Map<Integer, Integer> feasts = new TreeMap<>();
    private final StringBuilder tape = new StringBuilder();
    private final List<Ordinance> ordinances = new ArrayList<>();
    private final List<Past> past = new ArrayList<>();
    private final List<Plea> pleas = new ArrayList<>();
    private int here = NONE;
    private int trouble;
    private int fault;
    private int faultPlace;
    private int[] lodging = {};
    private int routeDay;
    private List<Integer> route = List.of();

    private int no(int why) {
        trouble = why;
        return NONE;
    }

    private int yes(int answer) {
        trouble = 0;
        return answer;
    }

    private boolean told(int why) {
        trouble = why;
        return why == 0;
    }

    private static boolean out(int number, int least, int most) {
        return number < least || number > most;
    }

    private boolean noPlace(int p) {
        return out(p, 0, places.size() - 1);
    }

    private boolean noHousehold(int h) {
        return out(h, 0, households.size() - 1);
    }

    private int today() {
        return past.size();
    }

    int household(int rank, int mouths, int horses) {
        if (out(rank, 1, 9) || out(mouths, 1, 99) || out(horses, 0, 99)) {
            return no(2);
        }
        if (households.size() == 8) {
            return no(3);
        }
        households.add(new Household(rank, mouths, horses));
        return yes(households.size() - 1);
    }

    boolean bar(int one, int other, boolean on) {
        if (noHousehold(one) || noHousehold(other) || one == other) {
            return told(1);
        }
        barred[one][other] = on;
        barred[other][one] = on;
        return told(0);
    }

    int place(int store, int owes, int stalls) {
        if (out(store, 0, 1000000) || out(owes, 0, 1000000) || out(stalls, 0, 999)) {
            return no(2);
        }
        if (places.size() == 9) {
            return no(3);
        }
        Place p = new Place();
        p.store = store;
        p.owes = owes;
        p.stalls = stalls;
        places.add(p);
        here = Math.max(here, 0);
        return yes(places.size() - 1);
    }

    int room(int place, int worth, int house, int walk) {
        if (noPlace(place)) {
            return no(1);
        }
        if (out(worth, 1, 9) || out(house, 0, 3) || out(walk, 0, 99)) {
            return no(2);
        }
        List<Room> rooms = places.get(place).rooms;
        if (rooms.size() == 10) {
            return no(3);
        }
        rooms.add(new Room(worth, house, walk));
        return yes(rooms.size() - 1);
    }

    boolean way(int one, int other, int hours) {
        if (noPlace(one) || noPlace(other) || one == other) {
            return told(1);
        }
        if (out(hours, 0, 48)) {
            return told(2);
        }
        ways[one][other] = hours;
        ways[other][one] = hours;
        return told(0);
    }

    boolean mud(int from, int to, int deep) {
        if (out(from, 0, 199) || out(to, from, 199) || out(deep, 0, 4)) {
            return told(2);
        }
        Arrays.fill(mud, from, to + 1, deep);
        return told(0);
    }

    boolean feast(int day, int place) {
        if (place != NONE && noPlace(place)) {
            return told(1);
        }
        if (out(day, 0, 199)) {
            return told(2);
        }
        if (place == NONE) {
            feasts.remove(day);
            return told(0);
        }
        if (feasts.size() == 8 && !feasts.containsKey(day)) {
            return told(3);
        }
        feasts.put(day, place);
        return told(0);
    }

    boolean bring(int place, int store, int owes) {
        if (noPlace(place)) {
            return told(1);
        }
        Place p = places.get(place);
        long newStore = (long) p.store + store;
        long newOwes = (long) p.owes + owes;
        if (newStore < 0 || newStore > 1000000 || newOwes < 0 || newOwes > 1000000) {
            return told(2);
        }
        p.store = (int) newStore;
        p.owes = (int) newOwes;
        return told(0);
    }

    int feed(int... numbers) {
        if (tape.length() + 20 > 400) {
            return NONE;
        }
        for (int number : numbers) {
            tape.append((char) (number >>> 24)).append((char) (number >>> 16 & 255));
            tape.append((char) (number >>> 8 & 255)).append((char) (number & 255));
        }
        return tape.length();
    }

    int ordinance(int day, int n) {
        if (out(day, 0, 199) || out(n, 0, tape.length())) {
            return no(2);
        }
        String text = tape.substring(0, n);
        tape.setLength(0);
        fault = 0;
        List<Rule> rules = read(text);
        if (fault != 0) {
            return no(4);
        }
        if (ordinances.size() == 10) {
            return no(3);
        }
        ordinances.add(new Ordinance(day, rules));
        return yes(ordinances.size() - 1);
    }

    private List<Rule> read(String text) {
        Reading reading = new Reading();
        Matcher m = TOKEN.matcher(text);
        int behind = 0;
        while (fault == 0) {
            m.region(behind, text.length()).lookingAt();
            behind = m.end();
            faultPlace = m.start(1);
            if (m.group(1).isEmpty()) {
                fault = faultPlace == text.length() && reading.mayEnd() ? 0 : 1;
                return reading.rules;
            }
            fault = reading.take(m.group(1));
        }
        return reading.rules;
    }

    /** What may stand next. */
    private enum Due { RULE, TEST, SIGN, LIMIT, AFTER_TEST, TERM, AFTER_NUMBER, FACTOR, AFTER_TERM }

    /** Goes from what may stand next to what may stand next, token by token. */
    private static final class Reading {
        final List<Rule> rules = new ArrayList<>();
        private Rule rule = new Rule();
        private Due due = Due.RULE;
        private int name;
        private char sign;

        boolean mayEnd() {
            return due == Due.AFTER_NUMBER || due == Due.AFTER_TERM;
        }

        /** The fault that the token is; 0 if it may stand there. */
        int take(String token) {
            boolean verb = token.equals("eats") || token.equals("feeds");
            return switch (due) {
                case RULE -> verb || token.equals("when") ? takeRule(token, verb) : 1;
                case TEST -> takeTest(token);
                case SIGN -> takeSign(token);
                case LIMIT -> takeLimit(token);
                case AFTER_TEST -> verb || token.equals("and") ? takeVerb(token, verb) : 1;
                case TERM -> takeTerm(token);
                case FACTOR -> takeFactor(token);
                case AFTER_NUMBER, AFTER_TERM -> takeJoint(token);
            };
        }

        private int takeRule(String token, boolean verb) {
            if (rules.size() == 12) {
                return 3;
            }
            rule = new Rule();
            rules.add(rule);
            return takeVerb(token, verb);
        }

        private int takeVerb(String token, boolean verb) {
            rule.horse = token.equals("feeds");
            due = verb ? Due.TERM : Due.TEST;
            return 0;
        }

        private int takeTest(String token) {
            name = NAMES.indexOf(token);
            due = Due.SIGN;
            return name < 0 ? noName(token) : rule.tests.size() == 4 ? 3 : 0;
        }

        private int takeSign(String token) {
            sign = token.charAt(0);
            due = Due.LIMIT;
            return "<>=".indexOf(sign) < 0 ? 1 : 0;
        }

        private int takeLimit(String token) {
            if (!isNumber(token)) {
                return 1;
            }
            rule.tests.add(new Test(name, sign, Integer.parseInt(token)));
            due = Due.AFTER_TEST;
            return 0;
        }

        private int takeTerm(String token) {
            name = NAMES.indexOf(token);
            if (name < 0 && !isNumber(token)) {
                return noName(token);
            }
            if (rule.terms.size() == 4) {
                return 3;
            }
            rule.terms.add(new Term(name < 0 ? Integer.parseInt(token) : 1, name));
            due = name < 0 ? Due.AFTER_NUMBER : Due.AFTER_TERM;
            return 0;
        }

        private int takeFactor(String token) {
            name = NAMES.indexOf(token);
            if (name < 0) {
                return noName(token);
            }
            Term number = rule.terms.remove(rule.terms.size() - 1);
            rule.terms.add(new Term(number.factor, name));
            due = Due.AFTER_TERM;
            return 0;
        }

        private int takeJoint(String token) {
            boolean times = token.equals("*") && due == Due.AFTER_NUMBER;
            due = times ? Due.FACTOR : token.equals("+") ? Due.TERM : Due.RULE;
            return times || token.equals("+") || token.equals(";") ? 0 : 1;
        }

        private static boolean isNumber(String token) {
            return token.matches("[0-9]{1,3}");
        }

        private static int noName(String token) {
            return token.matches("[a-z]{1,8}") && !token.matches("when|and|eats|feeds") ? 2 : 1;
        }
    }

    int fault() {
        return fault;
    }

    int where() {
        return trouble == 4 ? faultPlace : NONE;
    }

    int force(int day) {
        if (out(day, 0, 199)) {
            return NONE;
        }
        int found = -2;
        for (int since = 0; since <= day; since++) {
            for (int o = 0; o < ordinances.size(); o++) {
                found = ordinances.get(o).day == since ? o : found;
            }
        }
        return found;
    }

    private int value(int name, Household h, int day) {
        return switch (name) {
            case 0 -> h.rank;
            case 1 -> h.mouths;
            case 2 -> h.horses;
            case 3 -> day;
            case 4 -> mud[day];
            case 5 -> feasts.containsKey(day) ? 1 : 0;
            default -> 1;
        };
    }

    private boolean holds(Test t, Household h, int day) {
        int value = value(t.name, h, day);
        return t.sign == '<' ? value < t.number : t.sign == '>' ? value > t.number : value == t.number;
    }

    int eats(int household, int day, boolean horse) {
        if (noHousehold(household) || out(day, 0, 199)) {
            return NONE;
        }
        if (force(day) < 0) {
            return 0;
        }
        Household h = households.get(household);
        return ordinances.get(force(day)).rules.stream()
            .filter(r -> r.horse == horse && r.tests.stream().allMatch(t -> holds(t, h, day)))
            .mapToInt(r -> r.terms.stream().mapToInt(t -> t.factor * value(t.name, h, day)).sum())
            .findFirst().orElse(0);
    }

    int need(int day) {
        if (out(day, 0, 199)) {
            return NONE;
        }
        long all = 0;
        for (int h = 0; h < households.size(); h++) {
            all += (long) households.get(h).mouths * eats(h, day, false);
            all += (long) households.get(h).horses * eats(h, day, true);
        }
        return (int) Math.min(all, 1000000);
    }

    int lodge(int place) {
        if (noPlace(place)) {
            return no(1);
        }
        Lodgings found = new Lodgings(places.get(place), true);
        if (found.best == null) {
            return no(6);
        }
        lodging = found.best;
        return yes(found.sum);
    }

    int lodged(int household) {
        return out(household, 0, lodging.length - 1) ? NONE : lodging[household];
    }

    int why(int place) {
        if (noPlace(place)) {
            return no(1);
        }
        Place p = places.get(place);
        if (p.rooms.size() < households.size()) {
            return yes(1);
        }
        if (tooFewStalls(p)) {
            return yes(2);
        }
        if (new Lodgings(p, false).best == null) {
            return yes(3);
        }
        return yes(new Lodgings(p, true).best == null ? 4 : 0);
    }

    private boolean tooFewStalls(Place p) {
        return households.stream().mapToInt(Household::horses).sum() > p.stalls;
    }

    /** Rooms are tried in order, household by household: of like sums the first is the best. */
    private final class Lodgings {
        final List<Room> rooms;
        final boolean ranked;
        final int[] taken = new int[households.size()];
        int[] best;
        int sum = Integer.MAX_VALUE;

        Lodgings(Place p, boolean ranked) {
            rooms = p.rooms;
            this.ranked = ranked;
            if (!tooFewStalls(p)) {
                fill(0, 0);
            }
        }

        private void fill(int h, int so) {
            if (so >= sum) {
                return;
            }
            if (h == taken.length) {
                sum = so;
                best = taken.clone();
                return;
            }
            for (int r = 0; r < rooms.size(); r++) {
                taken[h] = r;
                boolean may = true;
                for (int g = 0; g < h; g++) {
                    may &= suit(g, h);
                }
                if (may) {
                    fill(h + 1, so + households.get(h).mouths * rooms.get(r).walk);
                }
            }
        }

        private boolean suit(int g, int h) {
            Room one = rooms.get(taken[g]);
            Room other = rooms.get(taken[h]);
            int ranks = Integer.compare(households.get(g).rank, households.get(h).rank);
            boolean upsideDown = ranked && ranks * Integer.compare(one.worth, other.worth) < 0;
            return taken[g] != taken[h] && !upsideDown && !(barred[g][h] && one.house == other.house);
        }
    }

    int route(int last) {
        if (out(last, today(), Math.min(199, today() + 20))) {
            return no(2);
        }
        if (here == NONE) {
            return no(6);
        }
        Journey best = new Journeys(last).from(today(), here, 1 << here);
        if (best == null) {
            return no(6);
        }
        routeDay = today();
        route = best.stops;
        return yes(best.hours);
    }

    /** Row by row; the best journey on from the first day of a row does not ask how the court came there. */
    private final class Journeys {
        final int last;
        final Map<List<Integer>, Journey> known = new HashMap<>();

        Journeys(int last) {
            this.last = last;
        }

        Journey from(int day, int p, int behind) {
            List<Integer> key = List.of(day, p, behind);
            if (!known.containsKey(key)) {
                known.put(key, find(day, p, behind));
            }
            return known.get(key);
        }

        private Journey find(int first, int p, int behind) {
            Journey best = null;
            List<Integer> row = new ArrayList<>();
            int eaten = 0;
            for (int day = first; day <= last; day++) {
                eaten += need(day);
                if (eaten > places.get(p).store || eaten > places.get(p).owes || feasts.getOrDefault(day, p) != p) {
                    return best;
                }
                row.add(p);
                if (day == last) {
                    return better(best, new Journey(0, row));
                }
                for (int q = 0; q < places.size(); q++) {
                    int hours = ways[p][q] * (4 + mud[day]) / 4;
                    Journey on = hours < 1 || hours > 16 || (behind >> q & 1) == 1 ? null : from(day + 1, q, behind | 1 << q);
                    if (on != null) {
                        List<Integer> stops = new ArrayList<>(row);
                        stops.addAll(on.stops);
                        best = better(best, new Journey(hours + on.hours, stops));
                    }
                }
            }
            return best;
        }

        private Journey better(Journey one, Journey other) {
            if (one == null || one.hours != other.hours) {
                return one == null || other.hours < one.hours ? other : one;
            }
            for (int i = 0; i < one.stops.size(); i++) {
                int less = Integer.compare(one.stops.get(i), other.stops.get(i));
                if (less != 0) {
                    return less < 0 ? one : other;
                }
            }
            return one;
        }
    }

    int at(int day) {
        return out(day, routeDay, routeDay + route.size() - 1) ? NONE : route.get(day - routeDay);
    }

    int lasts() {
        if (here == NONE) {
            return no(6);
        }
        int left = Math.min(places.get(here).store, places.get(here).owes);
        int days = 0;
        while (today() + days <= 199 && need(today() + days) <= left) {
            left -= need(today() + days);
            days++;
        }
        return yes(days);
    }

    int step(int place) {
        if (noPlace(place) || here == NONE) {
            return no(1);
        }
        int hours = ways[here][place] * (4 + mud[today()]) / 4;
        if (place != here && (hours == 0 || hours > 16)) {
            return no(5);
        }
        if (today() == 199) {
            return no(2);
        }
        Place p = places.get(here);
        int need = need(today());
        int taken = Math.min(need, Math.min(p.store, p.owes));
        p.store -= taken;
        p.owes -= taken;
        p.tally += taken;
        past.add(new Past(here, need - taken));
        here = place;
        return yes(need - taken);
    }

    int about(int place, int what) {
        if (noPlace(place)) {
            return NONE;
        }
        Place p = places.get(place);
        return switch (what) {
            case 0 -> p.store;
            case 1 -> p.owes;
            case 2 -> p.tally;
            case 3 -> p.rooms.size();
            case 4 -> (int) past.stream().filter(day -> day.place == place).count();
            default -> NONE;
        };
    }

    int was(int day) {
        return out(day, 0, today() - 1) ? NONE : past.get(day).place;
    }

    int lacked(int day) {
        return out(day, 0, today() - 1) ? NONE : past.get(day).lacked;
    }

    int plea(int worth) {
        if (out(worth, 0, 99)) {
            return no(2);
        }
        if (pleas.size() == 60) {
            return no(3);
        }
        Plea p = new Plea();
        p.worth = worth;
        p.came = today();
        pleas.add(p);
        return yes(pleas.size() - 1);
    }

    private List<Integer> turns() {
        List<Integer> waiting = new ArrayList<>();
        for (int i = 0; i < pleas.size(); i++) {
            if (pleas.get(i).heard == -2) {
                waiting.add(i);
            }
        }
        // A list's sort leaves like ones in their order: the elder first.
        waiting.sort((one, other) -> Integer.compare(weight(other), weight(one)));
        return waiting;
    }

    private int weight(int plea) {
        return pleas.get(plea).worth + today() - pleas.get(plea).came;
    }

    int hear(int many) {
        if (out(many, 1, 9)) {
            return no(2);
        }
        int heard = 0;
        for (int turn : turns()) {
            if (heard < many) {
                pleas.get(turn).heard = today();
                heard++;
            }
        }
        return yes(heard);
    }

    int heard(int plea) {
        return out(plea, 0, pleas.size() - 1) ? NONE : pleas.get(plea).heard;
    }

    int next(int i) {
        List<Integer> turns = turns();
        return out(i, 0, turns.size() - 1) ? NONE : turns.get(i);
    }

    int count(int what) {
        return switch (what) {
            case 0 -> households.size();
            case 1 -> places.size();
            case 2 -> ordinances.size();
            case 3 -> feasts.size();
            case 4 -> turns().size();
            case 5 -> today();
            case 6 -> here;
            case 7 -> tape.length();
            default -> NONE;
        };
    }

    int trouble() {
        return trouble;
    }
}
