import java.math.BigInteger;
import java.util.ArrayDeque;
import java.util.ArrayList;
import java.util.HashMap;
import java.util.List;
import java.util.Map;
import java.util.NoSuchElementException;
import java.util.Set;
import java.util.TreeSet;

/**
 * The document a second time, by other ways: every set of dying ones is walked through, every walk is walked,
 * every choice of hours is listed. RandomTest holds LastAsked against it, call by call.
 */
public final class Model {
    private static final Set<String> KEPT = Set.of("city", "person", "near", "asked", "heard", "went", "cat");
    private static final List<String> KINDS = List.of("plain", "shut", "walled", "doctor");

    private static final class Fault extends RuntimeException {
        private static final long serialVersionUID = 1L;
        final int number;
        final int place;

        Fault(int number, int place) {
            this.number = number;
            this.place = place;
        }
    }

    private record Token(int place, String text) {
        boolean isWord() {
            return text.matches("[a-z]{1,8}");
        }

        boolean isWhole() {
            return text.matches("[0-9]{1,3}");
        }
    }

    private record Heard(int p, int of, int at, int give) {
    }

    private static final class Told {
        int hour = -1;
        int gives;
        int asked;
        final List<String> names = new ArrayList<>();
        final List<Integer> kinds = new ArrayList<>();
        final List<Integer> has = new ArrayList<>();
        final List<Integer> chances = new ArrayList<>();
        final List<Set<Integer>> near = new ArrayList<>();
        int nears;
        final Map<List<Integer>, Integer> register = new HashMap<>();
        final List<Heard> heard = new ArrayList<>();
        final Map<Integer, Integer> went = new HashMap<>();

        boolean allows(int p, int of) {
            if (p == of || kinds.get(p) == 3 || kinds.get(of) == 1) {
                return false;
            }
            return kinds.get(of) != 2 || near.get(p).contains(of);
        }
    }

    private static final class World {
        int hour;
        int seed;
        int nights;
        int cat;
        final TreeSet<Integer> alive = new TreeSet<>();
        final List<Integer> has = new ArrayList<>();
        final Map<List<Integer>, Integer> register = new HashMap<>();

        World twin() {
            World w = new World();
            w.hour = hour;
            w.seed = seed;
            w.nights = nights;
            w.cat = cat;
            w.alive.addAll(alive);
            w.has.addAll(has);
            w.register.putAll(register);
            return w;
        }

        int heirOf(int of) {
            int who = -2;
            for (int p : alive.descendingSet()) {
                Integer h = p == of ? null : register.get(List.of(p, of));
                if (h != null && (who == -2 || h >= register.get(List.of(who, of)))) {
                    who = p;
                }
            }
            return who;
        }

        int end(int p, Set<Integer> dying) {
            List<Integer> had = new ArrayList<>();
            int at = p;
            while (at != -2 && dying.contains(at)) {
                if (had.contains(at)) {
                    return -2;
                }
                had.add(at);
                at = heirOf(at);
            }
            return at;
        }

        World behind(Set<Integer> dying) {
            World w = twin();
            for (int p : dying) {
                int end = end(p, dying);
                if (end == -2) {
                    w.cat += has.get(p);
                } else {
                    w.has.set(end, w.has.get(end) + has.get(p));
                }
                w.has.set(p, w.has.get(p) - has.get(p));
            }
            w.alive.removeAll(dying);
            return w;
        }

        int asks(int p, int of, int gives) {
            int much = has.get(of) < gives ? has.get(of) : gives;
            hour++;
            register.put(List.of(p, of), hour);
            has.set(of, has.get(of) - much);
            has.set(p, has.get(p) + much);
            return much;
        }
    }

    private interface Worth {
        int in(World behind, Set<Integer> dying);
    }

    private final StringBuilder tape = new StringBuilder();
    private Told told = null;
    private World now = new World();
    private final ArrayList<World> past = new ArrayList<>();
    private final ArrayList<World> images = new ArrayList<>();
    private int trouble = 0;
    private int fault = 0;
    private int place = 0;

    private int no(int number) {
        trouble = number;
        return -1;
    }

    private boolean none(int p) {
        trouble = 0;
        return told == null || p < 0 || p >= told.names.size();
    }

    private boolean dead(int p) {
        return !now.alive.contains(p);
    }

    private static int bits(Iterable<Integer> set) {
        int sum = 0;
        for (int p : set) {
            sum += 1 << p;
        }
        return sum;
    }

    private static TreeSet<Integer> unpack(int bits) {
        TreeSet<Integer> set = new TreeSet<>();
        for (int p = 0; p < 31; p++) {
            if ((bits & 1 << p) != 0) {
                set.add(p);
            }
        }
        return set;
    }

    private boolean badSet(int set) {
        return set < 0 || !now.alive.containsAll(unpack(set));
    }

    // ---- the city

    public int feed(int a, int b, int c, int d, int e) {
        if (tape.length() > 880) {
            return -1;
        }
        for (int n : new int[] {a, b, c, d, e}) {
            tape.append((char) (n >>> 24)).append((char) (n >>> 16 & 255));
            tape.append((char) (n >>> 8 & 255)).append((char) (n & 255));
        }
        return tape.length();
    }

    public int city(int n) {
        trouble = 0;
        if (n < 0 || n > tape.length()) {
            return no(2);
        }
        String text = tape.substring(0, n);
        tape.setLength(0);
        fault = 0;
        Told fresh = new Told();
        try {
            parse(text, fresh);
        } catch (Fault f) {
            fault = f.number;
            place = f.place;
            return no(4);
        }
        told = fresh;
        now = new World();
        now.hour = told.hour;
        now.has.addAll(told.has);
        now.register.putAll(told.register);
        for (int p = 0; p < told.names.size(); p++) {
            now.alive.add(p);
        }
        past.clear();
        images.clear();
        return told.names.size();
    }

    private static List<Token> tokens(String text) {
        List<Token> list = new ArrayList<>();
        int at = 0;
        while (at < text.length()) {
            char c = text.charAt(at);
            int from = at++;
            if (c == ' ') {
                continue;
            }
            String sort = c >= 'a' && c <= 'z' ? "[a-z]" : c >= '0' && c <= '9' ? "[0-9]" : null;
            while (sort != null && at < text.length() && text.substring(at, at + 1).matches(sort)) {
                at++;
            }
            list.add(new Token(from, text.substring(from, at)));
        }
        list.add(new Token(text.length(), ""));
        return list;
    }

    private static void parse(String text, Told t) {
        List<Token> all = tokens(text);
        ArrayDeque<Token> left = new ArrayDeque<>(all);
        Map<String, Integer> lines = new HashMap<>();
        boolean more = true;
        while (more) {
            Token head = left.remove();
            if (!KEPT.contains(head.text) || head.text.equals("cat")) {
                throw new Fault(1, head.place);
            }
            if (head.text.equals("city") && t.hour >= 0) {
                throw new Fault(3, head.place);
            }
            if (!head.text.equals("city") && t.hour < 0) {
                throw new Fault(6, head.place);
            }
            int room = Map.of("city", 1, "person", 6, "near", 9, "asked", 12, "heard", 3, "went", 6).get(head.text);
            int count = lines.merge(head.text, 1, Integer::sum);
            if (count > room && !head.text.equals("went")) {
                throw new Fault(5, head.place);
            }
            switch (head.text) {
                case "city" -> parseHead(left, t);
                case "person" -> parsePerson(left, t);
                case "near" -> parseNear(left, t);
                case "went" -> parseWent(left, t);
                default -> parseAsk(left, t, head.text.equals("heard"));
            }
            Token behind = left.remove();
            more = behind.text.equals(";");
            if (!more && !behind.text.isEmpty()) {
                throw new Fault(1, behind.place);
            }
        }
        if (t.names.isEmpty()) {
            throw new Fault(6, text.length());
        }
    }

    private static void word(ArrayDeque<Token> left, String text) {
        Token token = left.remove();
        if (!token.text.equals(text)) {
            throw new Fault(1, token.place);
        }
    }

    private static int whole(ArrayDeque<Token> left, int most) {
        Token token = left.remove();
        if (!token.isWhole()) {
            throw new Fault(1, token.place);
        }
        int value = Integer.parseInt(token.text);
        if (value > most) {
            throw new Fault(4, token.place);
        }
        return value;
    }

    private static int person(Told t, Token token) {
        if (!token.isWord() || KEPT.contains(token.text)) {
            throw new Fault(1, token.place);
        }
        if (!t.names.contains(token.text)) {
            throw new Fault(2, token.place);
        }
        return t.names.indexOf(token.text);
    }

    private static void parseHead(ArrayDeque<Token> left, Told t) {
        word(left, "hour");
        t.hour = whole(left, 99);
        word(left, "gives");
        t.gives = whole(left, 9);
    }

    private static void parsePerson(ArrayDeque<Token> left, Told t) {
        Token name = left.remove();
        if (!name.isWord() || KEPT.contains(name.text)) {
            throw new Fault(1, name.place);
        }
        if (t.names.contains(name.text)) {
            throw new Fault(3, name.place);
        }
        Token kind = left.remove();
        if (!KINDS.contains(kind.text)) {
            throw new Fault(1, kind.place);
        }
        word(left, "has");
        int has = whole(left, 99);
        word(left, "dies");
        int chance = whole(left, 100);
        t.names.add(name.text);
        t.kinds.add(KINDS.indexOf(kind.text));
        t.has.add(has);
        t.chances.add(chance);
        t.near.add(new TreeSet<>());
    }

    private static void parseNear(ArrayDeque<Token> left, Told t) {
        int p = person(t, left.remove());
        Token second = left.remove();
        int q = person(t, second);
        if (p == q || t.near.get(q).contains(p)) {
            throw new Fault(3, second.place);
        }
        t.near.get(p).add(q);
        t.near.get(q).add(p);
        t.nears++;
    }

    private static void parseAsk(ArrayDeque<Token> left, Told t, boolean heard) {
        Token first = left.remove();
        int p = person(t, first);
        if (t.kinds.get(p) == 3) {
            throw new Fault(7, first.place);
        }
        Token second = left.remove();
        int q = person(t, second);
        if (p == q || t.register.containsKey(List.of(p, q))) {
            throw new Fault(3, second.place);
        }
        if (!t.allows(p, q)) {
            throw new Fault(7, second.place);
        }
        word(left, "at");
        int at = whole(left, t.hour);
        if (heard) {
            word(left, "give");
            t.heard.add(new Heard(p, q, at, whole(left, 3)));
        } else {
            t.asked++;
        }
        t.register.put(List.of(p, q), at);
    }

    private static void parseWent(ArrayDeque<Token> left, Told t) {
        Token first = left.remove();
        int p = person(t, first);
        if (t.went.containsKey(p)) {
            throw new Fault(3, first.place);
        }
        Token second = left.remove();
        int q = second.text.equals("cat") ? -2 : person(t, second);
        if (p == q) {
            throw new Fault(3, second.place);
        }
        t.went.put(p, q);
    }

    public int fault() {
        return fault;
    }

    public int where() {
        return trouble == 4 ? place : -1;
    }

    // ---- now

    private TreeSet<Integer> canAsk(int p) {
        TreeSet<Integer> set = new TreeSet<>();
        for (int q : now.alive) {
            if (!dead(p) && told.allows(p, q)) {
                set.add(q);
            }
        }
        return set;
    }

    public int person(int p, int what) {
        if (none(p) || what < 0 || what > 6) {
            return no(1);
        }
        if (what == 6) {
            TreeSet<Integer> set = new TreeSet<>();
            for (int q : now.alive) {
                if (canAsk(q).contains(p)) {
                    set.add(q);
                }
            }
            return bits(set);
        }
        return List.of(told.kinds.get(p), now.has.get(p), told.chances.get(p), dead(p) ? 0 : 1,
            bits(told.near.get(p)), bits(canAsk(p))).get(what);
    }

    public int register(int p, int of) {
        if (none(p) || none(of) || p == of) {
            return no(1);
        }
        return now.register.getOrDefault(List.of(p, of), -2);
    }

    public int heir(int of) {
        if (none(of)) {
            return no(1);
        }
        return dead(of) ? no(5) : now.heirOf(of);
    }

    public int heirTo(int p) {
        if (none(p)) {
            return no(1);
        }
        TreeSet<Integer> set = new TreeSet<>();
        for (int q : now.alive) {
            if (now.heirOf(q) == p) {
                set.add(q);
            }
        }
        return bits(set);
    }

    public int hopes(int p) {
        if (none(p)) {
            return no(1);
        }
        return dead(p) ? no(5) : now.behind(unpack(heirTo(p))).has.get(p);
    }

    public int cat() {
        return none(0) ? no(1) : now.cat;
    }

    public int richest() {
        if (none(0)) {
            return no(1);
        }
        int who = -2;
        for (int p : now.alive) {
            who = who == -2 || now.has.get(p) > now.has.get(who) ? p : who;
        }
        return who;
    }

    // ---- dying at once

    public int goesTo(int p, int set) {
        if (none(p)) {
            return no(1);
        }
        return badSet(set) || !unpack(set).contains(p) ? no(2) : now.end(p, unpack(set));
    }

    public int hasThen(int p, int set) {
        if (none(p)) {
            return no(1);
        }
        if (dead(p)) {
            return no(5);
        }
        return badSet(set) ? no(2) : now.behind(unpack(set)).has.get(p);
    }

    public int catThen(int set) {
        if (none(0)) {
            return no(1);
        }
        return badSet(set) ? no(2) : now.behind(unpack(set)).cat - now.cat;
    }

    public int rounds() {
        if (none(0)) {
            return no(1);
        }
        TreeSet<Integer> set = new TreeSet<>();
        for (int p : now.alive) {
            int at = p;
            for (int i = 0; i < 20 && at != -2; i++) {
                at = now.heirOf(at);
                if (at == p) {
                    set.add(p);
                }
            }
        }
        return bits(set);
    }

    public int worthiest() {
        if (none(0)) {
            return no(1);
        }
        int who = -2;
        int most = 0;
        for (int p : now.alive) {
            World w = now.behind(Set.of(p));
            for (int q : w.alive) {
                int got = w.has.get(q) - now.has.get(q);
                if (got > most) {
                    most = got;
                    who = p;
                }
            }
        }
        return who;
    }

    public int plot(int from, int to) {
        if (none(from) || none(to) || from == to || dead(from) || dead(to)) {
            return no(1);
        }
        int least = -2;
        for (int set = 0; set < 64; set++) {
            TreeSet<Integer> dying = unpack(set);
            boolean goes = !badSet(set) && dying.contains(from) && !dying.contains(to) && now.end(from, dying) == to;
            if (goes && (least == -2 || dying.size() < Integer.bitCount(least))) {
                least = set;
            }
        }
        return least;
    }

    // ---- a night by chance

    private BigInteger expected(World world, Worth worth) {
        BigInteger sum = BigInteger.ZERO;
        int all = bits(world.alive);
        for (int set = 0; set < 64; set++) {
            if ((set & ~all) != 0) {
                continue;
            }
            BigInteger product = BigInteger.TEN.pow(12 - 2 * world.alive.size());
            for (int p : world.alive) {
                int chance = told.chances.get(p);
                product = product.multiply(BigInteger.valueOf((set & 1 << p) != 0 ? chance : 100 - chance));
            }
            if (product.signum() != 0) {
                TreeSet<Integer> dying = unpack(set);
                sum = sum.add(product.multiply(BigInteger.valueOf(worth.in(world.behind(dying), dying))));
            }
        }
        return sum;
    }

    private static long part(BigInteger sum, boolean lower) {
        BigInteger under = BigInteger.TEN.pow(12);
        BigInteger common = sum.gcd(under);
        return (lower ? under : sum).divide(common).longValueExact();
    }

    private BigInteger meanIn(World world, int p) {
        return expected(world, (w, dying) -> w.alive.contains(p) ? w.has.get(p) : 0);
    }

    public long mean(int p, boolean lower) {
        return none(p) ? no(1) : part(meanIn(now, p), lower);
    }

    public long odds(int p, int much, boolean lower) {
        if (none(p)) {
            return no(1);
        }
        if (much < 0 || much > 594) {
            return no(2);
        }
        return part(expected(now, (w, dying) -> (w.alive.contains(p) ? w.has.get(p) : 0) >= much ? 1 : 0), lower);
    }

    public long passes(int from, int to, boolean lower) {
        if (none(from) || none(to) || from == to) {
            return no(1);
        }
        World was = now;
        return part(expected(now, (w, dying) -> dying.contains(from) && was.end(from, dying) == to ? 1 : 0), lower);
    }

    public long catMean(boolean lower) {
        int had = now.cat;
        return none(0) ? no(1) : part(expected(now, (w, dying) -> w.cat - had), lower);
    }

    // ---- whom to ask

    private BigInteger bestSum = BigInteger.ZERO;

    private int findBest(int p, World world, int n, int row) {
        if (n == 0) {
            BigInteger sum = meanIn(world, p);
            if (sum.compareTo(bestSum) > 0) {
                bestSum = sum;
                return row;
            }
            return -1;
        }
        int found = findBest(p, world, n - 1, row * 10);
        for (int q : canAsk(p)) {
            World next = world.twin();
            next.asks(p, q, told.gives);
            int other = findBest(p, next, n - 1, row * 10 + q + 1);
            found = other >= 0 ? other : found;
        }
        return found;
    }

    private int seeker(int p, boolean fits) {
        if (none(p)) {
            return 1;
        }
        return !fits ? 2 : dead(p) ? 5 : 0;
    }

    public int best(int p, int n) {
        int why = seeker(p, n >= 1 && n <= 3);
        if (why != 0) {
            return no(why);
        }
        bestSum = BigInteger.ONE.negate();
        return findBest(p, now, n, 0);
    }

    public long bestMean(int p, int n, boolean lower) {
        return best(p, n) == -1 ? -1 : part(bestSum, lower);
    }

    /** By each set of houses come by (the first one's among them), the fewest hours, up to n. */
    private Map<Integer, Integer> walk(int p, int n) {
        Map<Integer, Integer> hours = new HashMap<>();
        Set<List<Integer>> here = new java.util.HashSet<>();
        here.add(List.of(p, 1 << p));
        for (int hour = 0; hour <= n; hour++) {
            Set<List<Integer>> next = new java.util.HashSet<>();
            for (List<Integer> one : here) {
                hours.putIfAbsent(one.get(1), hour);
                for (int q : told.near.get(one.get(0))) {
                    next.add(List.of(q, one.get(1) | 1 << q));
                }
            }
            here = next;
        }
        return hours;
    }

    public int tour(int p, int n) {
        int why = seeker(p, n >= 0 && n <= 12);
        if (why != 0) {
            return no(why);
        }
        Set<Integer> reached = walk(p, n).keySet();
        BigInteger most = BigInteger.ONE.negate();
        int best = 0;
        for (int set = 0; set < 64; set++) {
            int wanted = set;
            boolean fits = canAsk(p).containsAll(unpack(set)) && reached.stream().anyMatch(r -> (wanted & ~r) == 0);
            if (!fits) {
                continue;
            }
            World w = now.twin();
            for (int q : unpack(set)) {
                w.asks(p, q, told.gives);
            }
            BigInteger sum = meanIn(w, p);
            if (sum.compareTo(most) > 0) {
                most = sum;
                best = set;
            }
        }
        return best;
    }

    public int tourHours(int p, int n) {
        int set = tour(p, n);
        if (set == -1) {
            return -1;
        }
        int fewest = 99;
        for (Map.Entry<Integer, Integer> e : walk(p, n).entrySet()) {
            if ((set & ~e.getKey()) == 0 && e.getValue() < fewest) {
                fewest = e.getValue();
            }
        }
        return fewest;
    }

    public int apart(int p, int other) {
        if (none(p) || none(other)) {
            return no(1);
        }
        int fewest = 99;
        for (Map.Entry<Integer, Integer> e : walk(p, 6).entrySet()) {
            if ((e.getKey() & 1 << other) != 0 && e.getValue() < fewest) {
                fewest = e.getValue();
            }
        }
        return fewest == 99 ? -2 : fewest;
    }

    public int toAsk(int p) {
        if (none(p)) {
            return no(1);
        }
        int who = -2;
        for (int q : canAsk(p)) {
            if (now.heirOf(q) != p && (who == -2 || now.has.get(q) > now.has.get(who))) {
                who = q;
            }
        }
        return who;
    }

    public int rivals(int p, int of) {
        if (none(p) || none(of) || p == of) {
            return no(1);
        }
        if (dead(of)) {
            return no(5);
        }
        if (dead(p) || !now.register.containsKey(List.of(p, of))) {
            return -2;
        }
        // Strike the HEIR until it is p.
        World w = now.twin();
        TreeSet<Integer> struck = new TreeSet<>();
        while (w.heirOf(of) != p) {
            struck.add(w.heirOf(of));
            w.register.remove(List.of(w.heirOf(of), of));
        }
        return bits(struck);
    }

    // ---- hours that aren't sure

    private World atFirst(List<Integer> hours) {
        World w = new World();
        w.register.putAll(told.register);
        for (int k = 0; k < hours.size(); k++) {
            w.register.put(List.of(told.heard.get(k).p, told.heard.get(k).of), hours.get(k));
        }
        for (int p = 0; p < told.names.size(); p++) {
            w.alive.add(p);
        }
        return w;
    }

    private List<List<Integer>> allFits() {
        List<List<Integer>> rows = new ArrayList<>();
        rows.add(List.of());
        for (Heard h : told.heard) {
            List<List<Integer>> longer = new ArrayList<>();
            for (List<Integer> row : rows) {
                for (int hour = h.at - h.give; hour <= h.at + h.give; hour++) {
                    if (hour >= 0) {
                        List<Integer> next = new ArrayList<>(row);
                        next.add(hour);
                        longer.add(next);
                    }
                }
            }
            rows = longer;
        }
        rows.removeIf(row -> {
            World w = atFirst(row);
            return told.went.entrySet().stream().anyMatch(e -> w.heirOf(e.getKey()) != e.getValue());
        });
        return rows;
    }

    public int fits() {
        return none(0) ? no(1) : allFits().size();
    }

    public int fitAt(int i, int k) {
        if (none(0) || i < 0 || k < 0 || k >= told.heard.size()) {
            return no(1);
        }
        List<List<Integer>> all = allFits();
        return i >= all.size() ? no(1) : all.get(i).get(k);
    }

    public int heirBy(int p, int of) {
        if (none(p) || none(of) || p == of) {
            return no(1);
        }
        return (int) allFits().stream().filter(row -> atFirst(row).heirOf(of) == p).count();
    }

    private int[] looked() {
        List<List<Integer>> all = allFits();
        int[] best = {-2, -2};
        for (int k = 0; k < told.heard.size() && !all.isEmpty(); k++) {
            Map<Integer, Integer> left = new HashMap<>();
            for (List<Integer> row : all) {
                left.merge(row.get(k), 1, Integer::sum);
            }
            int most = java.util.Collections.max(left.values());
            if (best[0] == -2 || most < best[1]) {
                best = new int[] {k, most};
            }
        }
        return best;
    }

    public int look() {
        return none(0) ? no(1) : looked()[0];
    }

    public int lookLeaves() {
        return none(0) ? no(1) : looked()[1];
    }

    public int judge() {
        if (none(0)) {
            return no(1);
        }
        World w = atFirst(List.of());
        for (int p : new TreeSet<>(told.went.keySet())) {
            if (w.heirOf(p) != told.went.get(p)) {
                return p;
            }
        }
        return -2;
    }

    // ---- rich and beggar

    public int begs(int shame, boolean gives, boolean asks, boolean ofBeggar) {
        if (none(0) || shame < 0 || shame > 9) {
            no(told == null ? 1 : 2);
            return -100;
        }
        int[][] rows = {{0, 0}, {-shame, -1}, {1, 0}, {-2, 4}};
        return rows[(gives ? 2 : 0) + (asks ? 1 : 0)][ofBeggar ? 1 : 0];
    }

    private List<Integer> allRests(int shame) {
        List<Integer> list = new ArrayList<>();
        for (boolean g : new boolean[] {false, true}) {
            for (boolean a : new boolean[] {false, true}) {
                boolean rich = begs(shame, !g, a, false) > begs(shame, g, a, false);
                boolean beggar = begs(shame, g, !a, true) > begs(shame, g, a, true);
                if (!rich && !beggar) {
                    list.add((g ? 10 : 0) + (a ? 1 : 0));
                }
            }
        }
        return list;
    }

    public int rests(int shame) {
        return begs(shame, true, true, true) == -100 ? -1 : allRests(shame).size();
    }

    public int rest(int shame) {
        if (begs(shame, true, true, true) == -100) {
            return -1;
        }
        List<Integer> list = allRests(shame);
        return list.isEmpty() ? -2 : list.get(0);
    }

    // ---- nights by draws

    private TreeSet<Integer> drawn(World w) {
        TreeSet<Integer> dying = new TreeSet<>();
        for (int p : w.alive) {
            w.seed = (int) ((75L * w.seed + 74) % 65537);
            if (w.seed % 100 < told.chances.get(p)) {
                dying.add(p);
            }
        }
        return dying;
    }

    private List<World> row(int seed, int n) {
        List<World> row = new ArrayList<>();
        World w = now.twin();
        w.seed = seed;
        row.add(w);
        for (int i = 0; i < n; i++) {
            TreeSet<Integer> dying = drawn(w);
            w = w.behind(dying);
            row.add(w);
        }
        return row;
    }

    private boolean badDraws(int seed, int n) {
        return seed < 0 || seed > 65536 || n < 0 || n > 60;
    }

    public int nights(int p, int seed, int n) {
        if (none(p)) {
            return no(1);
        }
        return badDraws(seed, n) ? no(2) : row(seed, n).get(n).has.get(p);
    }

    public int lives(int seed, int n) {
        if (none(0)) {
            return no(1);
        }
        return badDraws(seed, n) ? no(2) : bits(row(seed, n).get(n).alive);
    }

    public int firstCat(int seed, int n) {
        if (none(0)) {
            return no(1);
        }
        if (badDraws(seed, n)) {
            return no(2);
        }
        List<World> row = row(seed, n);
        for (int i = 1; i <= n; i++) {
            if (row.get(i).cat > now.cat) {
                return i;
            }
        }
        return -2;
    }

    // ---- acts

    private void keep() {
        past.add(now.twin());
        if (past.size() > 16) {
            past.remove(0);
        }
    }

    public int ask(int p, int of) {
        if (none(p) || none(of) || p == of) {
            return no(1);
        }
        if (dead(p) || dead(of)) {
            return no(5);
        }
        if (!told.allows(p, of)) {
            return no(6);
        }
        if (now.hour == 999) {
            return no(3);
        }
        keep();
        return now.asks(p, of, told.gives);
    }

    public int die(int p) {
        if (none(p)) {
            return no(1);
        }
        if (dead(p)) {
            return no(5);
        }
        keep();
        int heir = now.heirOf(p);
        now = now.behind(Set.of(p));
        return heir;
    }

    public int night() {
        if (none(0)) {
            return no(1);
        }
        if (now.nights == 999) {
            return no(3);
        }
        keep();
        TreeSet<Integer> dying = drawn(now);
        now = now.behind(dying);
        now.nights++;
        return bits(dying);
    }

    public boolean seed(int v) {
        if (none(0) || v < 0 || v > 65536) {
            no(told == null ? 1 : 2);
            return false;
        }
        now.seed = v;
        return true;
    }

    public boolean undo() {
        trouble = past.isEmpty() ? 6 : 0;
        if (trouble == 0) {
            now = past.remove(past.size() - 1);
        }
        return trouble == 0;
    }

    public int image() {
        if (none(0)) {
            return no(1);
        }
        if (images.size() == 3) {
            return no(3);
        }
        images.add(now.twin());
        return images.size() - 1;
    }

    public boolean back(int image) {
        trouble = image < 0 || image >= images.size() ? 1 : 0;
        if (trouble == 0) {
            now = images.get(image).twin();
            past.clear();
        }
        return trouble == 0;
    }

    // ---- what is told

    public int led(int i) {
        List<Integer> list = new ArrayList<>();
        for (int p : now.alive) {
            if (now.heirOf(p) == -2) {
                list.add(p);
            }
        }
        if (i < 0 || i >= list.size()) {
            throw new NoSuchElementException();
        }
        return list.get(i);
    }

    public int size(int what) {
        Told t = told == null ? new Told() : told;
        int[] all = {now.hour, t.gives, t.names.size(), t.nears, t.asked, t.heard.size(), t.went.size(),
            now.alive.size(), now.nights, now.seed, past.size(), images.size(), tape.length()};
        return what < 0 || what >= all.length ? -1 : all[what];
    }

    public int trouble() {
        return trouble;
    }
}
