import java.util.ArrayDeque;
import java.util.ArrayList;
import java.util.Arrays;
import java.util.Collections;
import java.util.Deque;
import java.util.HashMap;
import java.util.LinkedHashSet;
import java.util.List;
import java.util.Map;
import java.util.Set;
import java.util.TreeMap;
import java.util.TreeSet;

/**
 * The document once more, in the slowest and plainest words that Java's library has: by trying all
 * rows, all sets and all ways. It shares no code with the class that is tested.
 */
final class Model {
    static final class Fault extends Exception {
        private static final long serialVersionUID = 1L;
        final int number;

        Fault(int place, int kind) {
            number = 1 + 8 * place + kind;
        }
    }

    static final class Owner {
        int landing;
        int weight;
        int state;
    }

    static final class Thing {
        int owner;
        int weight;
        int floats;
        int soak;
        int state;
        int sunkAt;
    }

    record Rope(int low, int high, int strength) { }

    /** The river with all on it; copied whole whenever something is to be kept. */
    static final class World {
        int miles;
        int store;
        int mile;
        List<Owner> owners = new ArrayList<>();
        List<Thing> things = new ArrayList<>();
        List<Rope> ropes = new ArrayList<>();
        Map<Integer, Integer> rapids = new TreeMap<>();

        World copy() {
            World w = new World();
            w.miles = miles;
            w.store = store;
            w.mile = mile;
            for (Owner o : owners) {
                Owner p = new Owner();
                p.landing = o.landing;
                p.weight = o.weight;
                p.state = o.state;
                w.owners.add(p);
            }
            for (Thing t : things) {
                Thing u = new Thing();
                u.owner = t.owner;
                u.weight = t.weight;
                u.floats = t.floats;
                u.soak = t.soak;
                u.state = t.state;
                u.sunkAt = t.sunkAt;
                w.things.add(u);
            }
            w.ropes.addAll(ropes);
            w.rapids.putAll(rapids);
            return w;
        }

        List<Integer> afloat() {
            List<Integer> list = new ArrayList<>();
            for (int t = 0; t < things.size(); t++) {
                if (things.get(t).state == 0) {
                    list.add(t);
                }
            }
            return list;
        }

        boolean bound(int a, int b) {
            return ropes.stream().anyMatch(r -> r.low == Math.min(a, b) && r.high == Math.max(a, b));
        }

        /** The pieces by a walk along the ropes, from the least thing on. */
        List<TreeSet<Integer>> pieces() {
            List<TreeSet<Integer>> all = new ArrayList<>();
            Set<Integer> seen = new TreeSet<>();
            for (int t : afloat()) {
                if (seen.contains(t)) {
                    continue;
                }
                TreeSet<Integer> piece = new TreeSet<>();
                Deque<Integer> walk = new ArrayDeque<>(List.of(t));
                while (!walk.isEmpty()) {
                    int u = walk.pop();
                    if (piece.add(u)) {
                        for (Rope r : ropes) {
                            if (r.low == u) {
                                walk.push(r.high);
                            }
                            if (r.high == u) {
                                walk.push(r.low);
                            }
                        }
                    }
                }
                seen.addAll(piece);
                all.add(piece);
            }
            return all;
        }

        TreeSet<Integer> piece(int thing) {
            for (TreeSet<Integer> p : pieces()) {
                if (p.contains(thing)) {
                    return p;
                }
            }
            return new TreeSet<>();
        }

        TreeSet<Integer> ridden(int owner) {
            TreeSet<Integer> best = new TreeSet<>();
            if (owners.get(owner).state != 0) {
                return best;
            }
            long most = 0;
            for (TreeSet<Integer> p : pieces()) {
                long own = p.stream().filter(t -> things.get(t).owner == owner).count();
                if (own > most) {
                    most = own;
                    best = p;
                }
            }
            return best;
        }

        int margin(TreeSet<Integer> piece) {
            int sum = lift(piece);
            for (int o = 0; o < owners.size(); o++) {
                if (ridden(o).equals(piece)) {
                    sum -= owners.get(o).weight;
                }
            }
            return sum;
        }

        int lift(Iterable<Integer> set) {
            int sum = 0;
            for (int t : set) {
                sum += things.get(t).floats - things.get(t).weight;
            }
            return sum;
        }

        TreeSet<Integer> doomed() {
            TreeSet<Integer> set = new TreeSet<>();
            for (TreeSet<Integer> p : pieces()) {
                if (margin(p) < 0) {
                    set.addAll(p);
                }
            }
            return set;
        }

        void soak() {
            for (int t : afloat()) {
                Thing thing = things.get(t);
                thing.floats = thing.floats < thing.soak ? 0 : thing.floats - thing.soak;
            }
        }

        /** {sank, landed, broke}. */
        int[] pass(int draw) {
            int[] tally = new int[3];
            mile++;
            soak();
            int force = Math.max(draw, rapids.getOrDefault(mile, 0));
            int before = ropes.size();
            ropes.removeIf(r -> r.strength < force);
            tally[2] = before - ropes.size();
            Set<Integer> landing = new TreeSet<>();
            for (int o = 0; o < owners.size(); o++) {
                if (owners.get(o).state == 0 && owners.get(o).landing == mile) {
                    owners.get(o).state = 1;
                    landing.add(o);
                }
            }
            for (int t : afloat()) {
                if (landing.contains(things.get(t).owner)) {
                    things.get(t).state = 1;
                    tally[1]++;
                    for (Rope r : new ArrayList<>(ropes)) {
                        if (r.low == t || r.high == t) {
                            store += r.strength;
                            ropes.remove(r);
                        }
                    }
                }
            }
            TreeSet<Integer> doomed = doomed();
            List<Integer> wet = new ArrayList<>();
            for (int o = 0; o < owners.size(); o++) {
                if (!Collections.disjoint(ridden(o), doomed)) {
                    wet.add(o);
                }
            }
            wet.forEach(o -> owners.get(o).state = 2);
            for (int t : doomed) {
                things.get(t).state = 2;
                things.get(t).sunkAt = mile;
                ropes.removeIf(r -> r.low == t || r.high == t);
            }
            tally[0] = doomed.size();
            return tally;
        }
    }

    /** All that an image keeps. */
    static final class Kept {
        World world = new World();
        List<World> past = new ArrayList<>();
        List<int[]> offers = new ArrayList<>();
        long x;

        Kept copy() {
            Kept k = new Kept();
            k.world = world.copy();
            for (World w : past) {
                k.past.add(w.copy());
            }
            k.offers.addAll(offers);
            k.x = x;
            return k;
        }
    }

    private final List<Integer> tape = new ArrayList<>();
    private Kept now = new Kept();
    private final Kept[] images = new Kept[4];
    private final List<RuleTree> rules = new ArrayList<>();

    // ---- the texts

    /** A tree of a rule: sums, facts and what joins them. */
    interface Tree {
        long value(Map<String, Long> words);
    }

    record Clause(Tree sum, Tree test) { }

    record RuleTree(List<Clause> clauses) {
        long worth(Map<String, Long> words) {
            for (Clause c : clauses) {
                if (c.test == null || c.test.value(words) != 0) {
                    return c.sum.value(words);
                }
            }
            return 0;
        }
    }

    /** A token: a word, a number, a sign or the end, with its place. */
    record Token(char kind, String text, int place) { }

    private static List<Token> tokens(List<Integer> bytes) {
        List<Token> list = new ArrayList<>();
        int i = 0;
        while (i < bytes.size()) {
            int start = i;
            int b = bytes.get(i);
            if (b == 32) {
                i++;
                continue;
            }
            char kind = b >= 97 && b <= 122 ? 'w' : b >= 48 && b <= 57 ? 'n' : 's';
            StringBuilder text = new StringBuilder();
            if (kind == 's') {
                text.append((char) b);
                i++;
                if ((b == '<' || b == '>') && i < bytes.size() && bytes.get(i) == '=') {
                    text.append('=');
                    i++;
                }
            } else {
                int low = kind == 'w' ? 97 : 48;
                int high = kind == 'w' ? 122 : 57;
                while (i < bytes.size() && bytes.get(i) >= low && bytes.get(i) <= high) {
                    text.append((char) (int) bytes.get(i));
                    i++;
                }
            }
            list.add(new Token(kind, text.toString(), start));
        }
        list.add(new Token('e', "", bytes.size()));
        return list;
    }

    static final class Parser {
        final List<Token> tokens;
        int at;
        int parts;

        Parser(List<Token> tokens) {
            this.tokens = tokens;
        }

        Token peek() {
            return tokens.get(at);
        }

        boolean is(String text) {
            return peek().kind != 'n' && peek().kind != 'e' && peek().text.equals(text);
        }

        boolean skip(String text) {
            if (is(text)) {
                at++;
                return true;
            }
            return false;
        }

        Fault fault(int kind) {
            return new Fault(peek().place, kind);
        }

        int number(int least, int most) throws Fault {
            if (peek().kind != 'n') {
                throw fault(0);
            }
            String digits = peek().text;
            if (digits.length() > 5 || Integer.parseInt(digits) < least || Integer.parseInt(digits) > most) {
                throw fault(1);
            }
            at++;
            return Integer.parseInt(digits);
        }

        World river() throws Fault {
            World w = new World();
            int clauses = 0;
            do {
                String word = peek().text;
                if (peek().kind != 'w' || !List.of("river", "owner", "thing", "bound", "rapid").contains(word)) {
                    throw fault(0);
                }
                int size = switch (word) {
                    case "river" -> clauses > 0 ? 9 : -9;
                    case "owner" -> w.owners.size() - 6;
                    case "thing" -> w.things.size() - 8;
                    case "bound" -> w.ropes.size() - 12;
                    default -> w.rapids.size() - 6;
                };
                if (size >= 0 || clauses == 40 || clauses == 0 && !word.equals("river")) {
                    throw fault(4);
                }
                at++;
                clauses++;
                clause(w, word);
            } while (skip(";"));
            if (peek().kind != 'e') {
                throw fault(0);
            }
            return w;
        }

        void clause(World w, String word) throws Fault {
            switch (word) {
                case "river":
                    w.miles = number(2, 99);
                    w.store = number(0, 99);
                    break;
                case "owner":
                    Owner o = new Owner();
                    o.landing = number(1, w.miles);
                    o.weight = number(0, 20);
                    w.owners.add(o);
                    break;
                case "thing":
                    Thing t = new Thing();
                    t.owner = number(0, w.owners.size() - 1);
                    t.weight = number(0, 50);
                    t.floats = number(0, 99);
                    t.soak = number(0, 9);
                    w.things.add(t);
                    break;
                case "bound":
                    int a = number(0, w.things.size() - 1);
                    int place = at;
                    int b = number(0, w.things.size() - 1);
                    if (a == b || w.bound(a, b)) {
                        at = place;
                        throw fault(1);
                    }
                    w.ropes.add(new Rope(Math.min(a, b), Math.max(a, b), number(1, 9)));
                    break;
                default:
                    int here = at;
                    int mile = number(1, w.miles);
                    if (w.rapids.containsKey(mile)) {
                        at = here;
                        throw fault(1);
                    }
                    w.rapids.put(mile, number(1, 9));
                    break;
            }
        }

        RuleTree rule() throws Fault {
            List<Clause> clauses = new ArrayList<>();
            do {
                if (!is("tie")) {
                    throw fault(0);
                }
                if (clauses.size() == 12) {
                    throw fault(4);
                }
                at++;
                Tree sum = sum();
                clauses.add(new Clause(sum, skip("if") ? test(0) : null));
            } while (skip(";"));
            if (peek().kind != 'e') {
                throw fault(0);
            }
            return new RuleTree(clauses);
        }

        Tree test(int depth) throws Fault {
            Tree left = part(depth);
            while (skip("or")) {
                Tree a = left;
                Tree b = part(depth);
                left = w -> a.value(w) != 0 || b.value(w) != 0 ? 1 : 0;
            }
            return left;
        }

        Tree part(int depth) throws Fault {
            Tree left = fact(depth);
            while (skip("and")) {
                Tree a = left;
                Tree b = fact(depth);
                left = w -> a.value(w) != 0 && b.value(w) != 0 ? 1 : 0;
            }
            return left;
        }

        Tree fact(int depth) throws Fault {
            if (is("not") || is("[")) {
                if (depth == 10) {
                    throw fault(2);
                }
                if (skip("not")) {
                    Tree a = fact(depth + 1);
                    return w -> a.value(w) == 0 ? 1 : 0;
                }
                at++;
                Tree a = test(depth + 1);
                if (!skip("]")) {
                    throw fault(0);
                }
                return a;
            }
            Tree a = sum();
            String sign = peek().text;
            if (peek().kind != 's' || !List.of("<", "<=", "=", ">=", ">").contains(sign)) {
                throw fault(0);
            }
            part();
            at++;
            Tree b = sum();
            return w -> {
                int c = Long.compare(a.value(w), b.value(w));
                return (c < 0 && sign.contains("<") || c == 0 && sign.contains("=") || c > 0 && sign.contains(">")) ? 1 : 0;
            };
        }

        void part() throws Fault {
            parts++;
            if (parts > 60) {
                throw fault(3);
            }
        }

        Tree sum() throws Fault {
            Tree left = term();
            while (is("+") || is("-")) {
                boolean plus = skip("+") || !skip("-");
                Tree a = left;
                Tree b = term();
                left = plus ? w -> a.value(w) + b.value(w) : w -> a.value(w) - b.value(w);
            }
            return left;
        }

        Tree term() throws Fault {
            Tree left = value();
            while (is("*") || is("/") || is("%")) {
                String sign = peek().text;
                at++;
                Tree a = left;
                Tree b = value();
                left = w -> {
                    long x = a.value(w);
                    long y = b.value(w);
                    if (sign.equals("*")) {
                        return x * y;
                    }
                    return y == 0 ? 0 : sign.equals("/") ? x / y : x % y;
                };
            }
            return left;
        }

        Tree value() throws Fault {
            Token token = peek();
            if (token.kind == 'n') {
                int number = number(0, 99999);
                at--;
                part();
                at++;
                return w -> number;
            }
            if (token.kind != 'w' || !List.of("one", "other", "float", "weight", "soak", "same", "apart", "ropes",
                    "store", "mile", "landing", "left").contains(token.text)) {
                throw fault(0);
            }
            part();
            at++;
            return w -> w.get(token.text);
        }
    }

    // ---- the face

    int feed(int a, int b, int c, int d, int e) {
        if (tape.size() > 380) {
            return -1;
        }
        for (int n : new int[] {a, b, c, d, e}) {
            for (int i = 3; i >= 0; i--) {
                tape.add(n >>> 8 * i & 255);
            }
        }
        return tape.size();
    }

    int end(int n) {
        if (n < 0 || n > tape.size()) {
            return -1;
        }
        while (tape.size() > n) {
            tape.remove(tape.size() - 1);
        }
        return n;
    }

    int river() {
        try {
            World w = new Parser(tokens(tape)).river();
            now.world = w;
            now.past.clear();
            now.offers.clear();
            return w.things.size();
        } catch (Fault f) {
            return -2 - f.number;
        } finally {
            tape.clear();
        }
    }

    int rule() {
        if (rules.size() == 6) {
            return -1;
        }
        try {
            rules.add(new Parser(tokens(tape)).rule());
            return rules.size() - 1;
        } catch (Fault f) {
            return -2 - f.number;
        } finally {
            tape.clear();
        }
    }

    private World w() {
        return now.world;
    }

    private boolean isRiver() {
        return w().miles > 0;
    }

    private boolean isAfloat(int thing) {
        return w().afloat().contains(thing);
    }

    private static int bits(Iterable<Integer> set) {
        int bits = 0;
        for (int t : set) {
            bits |= 1 << t;
        }
        return bits;
    }

    private static List<Integer> list(int bits) {
        List<Integer> list = new ArrayList<>();
        for (int i = 0; i < 31; i++) {
            if ((bits & 1 << i) != 0) {
                list.add(i);
            }
        }
        return list;
    }

    int owner(int owner, int what) {
        if (owner < 0 || owner >= w().owners.size() || what < 0 || what > 3) {
            return -1;
        }
        Owner o = w().owners.get(owner);
        TreeSet<Integer> ridden = w().ridden(owner);
        return new int[] {o.landing, o.weight, o.state, ridden.isEmpty() ? -1 : ridden.first()}[what];
    }

    int thing(int thing, int what) {
        if (thing < 0 || thing >= w().things.size() || what < 0 || what > 5) {
            return -1;
        }
        Thing t = w().things.get(thing);
        return new int[] {t.owner, t.weight, t.floats, t.soak, t.state, bits(w().piece(thing))}[what];
    }

    int rope(int rope, int what) {
        if (rope < 0 || rope >= w().ropes.size() || what < 0 || what > 2) {
            return -1;
        }
        Rope r = w().ropes.get(rope);
        return new int[] {r.low, r.high, r.strength}[what];
    }

    int rapid(int mile) {
        return isRiver() && mile >= 0 && mile <= w().miles ? w().rapids.getOrDefault(mile, 0) : -1;
    }

    int margin(int thing) {
        return isAfloat(thing) ? w().margin(w().piece(thing)) : -10000;
    }

    private void act() {
        now.past.add(w().copy());
        if (now.past.size() > 20) {
            now.past.remove(0);
        }
    }

    int mile() {
        if (w().mile >= w().miles) {
            return -1;
        }
        act();
        return w().pass(0)[0];
    }

    int bind(int one, int other, int strength) {
        if (!isAfloat(one) || !isAfloat(other) || one == other || w().bound(one, other)
                || strength < 1 || strength > 9 || strength > w().store || w().ropes.size() == 12) {
            return -1;
        }
        act();
        w().ropes.add(new Rope(Math.min(one, other), Math.max(one, other), strength));
        w().store -= strength;
        return w().ropes.size() - 1;
    }

    int cut(int rope) {
        if (rope < 0 || rope >= w().ropes.size()) {
            return -1;
        }
        act();
        w().store += w().ropes.remove(rope).strength;
        return w().store;
    }

    int saw(int thing) {
        if (!isAfloat(thing)) {
            return -1;
        }
        act();
        int before = w().ropes.size();
        w().ropes.removeIf(r -> r.low == thing || r.high == thing);
        return before - w().ropes.size();
    }

    int push(int thing, int owner) {
        if (!isAfloat(thing) || owner < 0 || owner >= w().owners.size() || w().things.get(thing).owner == owner) {
            return -1;
        }
        act();
        int old = w().things.get(thing).owner;
        w().things.get(thing).owner = owner;
        return old;
    }

    int undo() {
        if (now.past.isEmpty()) {
            return -2;
        }
        now.world = now.past.remove(now.past.size() - 1);
        return now.past.size();
    }

    int run(int rule, int n, int strength) {
        if (rule < 0 || rule >= rules.size() || !isRiver() || n < 1 || (long) w().mile + n > w().miles
                || strength < 1 || strength > 9) {
            return -1;
        }
        now.past.clear();
        int sank = 0;
        for (int i = 0; i < n; i++) {
            if (w().store >= strength && w().ropes.size() < 12) {
                tie(rules.get(rule), strength);
            }
            sank += w().pass(0)[0];
        }
        return sank;
    }

    private void tie(RuleTree rule, int strength) {
        long best = 0;
        int[] pair = null;
        for (int a : w().afloat()) {
            for (int b : w().afloat()) {
                if (a < b && !w().bound(a, b)) {
                    long worth = rule.worth(words(a, b));
                    if (worth > best) {
                        best = worth;
                        pair = new int[] {a, b};
                    }
                }
            }
        }
        if (pair != null) {
            w().ropes.add(new Rope(pair[0], pair[1], strength));
            w().store -= strength;
        }
    }

    private Map<String, Long> words(int a, int b) {
        Thing one = w().things.get(a);
        Thing other = w().things.get(b);
        Map<String, Long> words = new HashMap<>();
        words.put("one", (long) a);
        words.put("other", (long) b);
        words.put("float", (long) one.floats + other.floats);
        words.put("weight", (long) one.weight + other.weight);
        words.put("soak", (long) one.soak + other.soak);
        words.put("same", one.owner == other.owner ? 1L : 0L);
        words.put("apart", w().piece(a).contains(b) ? 0L : 1L);
        words.put("ropes", w().ropes.stream().filter(r -> r.low == a || r.low == b || r.high == a || r.high == b).count());
        words.put("store", (long) w().store);
        words.put("mile", (long) w().mile);
        words.put("landing", (long) Math.min(w().owners.get(one.owner).landing, w().owners.get(other.owner).landing));
        words.put("left", (long) w().afloat().size());
        return words;
    }

    int ahead(int n, int what) {
        if (!isRiver() || n < 0 || n > w().miles - w().mile || what < 0 || what > 3) {
            return -1;
        }
        World w = w().copy();
        for (int i = 0; i < n; i++) {
            w.pass(0);
        }
        int bits = 0;
        if (what == 3) {
            for (int o = 0; o < w.owners.size(); o++) {
                bits |= w.owners.get(o).state == 2 ? 1 << o : 0;
            }
        } else {
            for (int t = 0; t < w.things.size(); t++) {
                bits |= w.things.get(t).state == what ? 1 << t : 0;
            }
        }
        return bits;
    }

    int sinks(int thing) {
        if (thing < 0 || thing >= w().things.size()) {
            return -1;
        }
        World w = w().copy();
        while (w.mile < w.miles) {
            w.pass(0);
        }
        return w.things.get(thing).state == 2 ? w.things.get(thing).sunkAt : -2;
    }

    private boolean isSet(int things) {
        return isRiver() && (things & ~bits(w().afloat())) == 0;
    }

    int bearers(int things, int what) {
        if (!isSet(things) || what < 0 || what > 1) {
            return -1;
        }
        List<int[]> found = new ArrayList<>();
        for (int set = 0; set < 256; set++) {
            if (isSet(set) && (set & things) == 0 && w().lift(list(set | things)) >= 0) {
                found.add(new int[] {list(set).size(), set});
            }
        }
        found.sort((a, b) -> a[0] != b[0] ? a[0] - b[0] : a[1] - b[1]);
        return found.isEmpty() ? -2 : found.get(0)[what];
    }

    private void rows(List<Integer> row, List<Integer> all, List<List<Integer>> into) {
        if (row.size() == all.size()) {
            into.add(new ArrayList<>(row));
            return;
        }
        for (int t : all) {
            if (!row.contains(t)) {
                row.add(t);
                rows(row, all, into);
                row.remove(row.size() - 1);
            }
        }
    }

    private boolean isGoodRow(List<Integer> row) {
        World w = w().copy();
        w.ropes.clear();
        if (w.lift(row) < 0) {
            return false;
        }
        while (w.mile < w.miles) {
            w.mile++;
            w.soak();
            boolean landing = false;
            List<Integer> places = new ArrayList<>();
            List<Integer> later = new ArrayList<>();
            for (int i = 0; i < row.size(); i++) {
                int mile = w.owners.get(w.things.get(row.get(i)).owner).landing;
                landing |= mile == w.mile;
                if (mile > w.mile) {
                    places.add(i);
                    later.add(row.get(i));
                }
            }
            boolean gap = !places.isEmpty() && places.get(places.size() - 1) - places.get(0) != places.size() - 1;
            if (landing && (gap || w.lift(later) < 0)) {
                return false;
            }
        }
        return true;
    }

    int plan(int what) {
        if (!isRiver() || what < -1 || what > 6) {
            return -4;
        }
        if (w().afloat().size() > 7) {
            return -3;
        }
        List<List<Integer>> rows = new ArrayList<>();
        rows(new ArrayList<>(), w().afloat(), rows);
        rows.removeIf(row -> !isGoodRow(row));
        if (what == -1) {
            return rows.size();
        }
        return rows.isEmpty() || what >= rows.get(0).size() ? -2 : rows.get(0).get(what);
    }

    int sawn(int things, int what) {
        if (!isSet(things) || what < 0 || what > 2) {
            return -1;
        }
        int sets = 0;
        int[] best = null;
        for (int gone = 0; gone < 1 << w().ropes.size(); gone++) {
            World w = w().copy();
            for (int r : list(gone)) {
                w.ropes.remove(w().ropes.get(r));
            }
            if (bits(w.doomed()) == things) {
                sets++;
                int size = list(gone).size();
                if (best == null || size < best[0]) {
                    best = new int[] {size, gone};
                }
            }
        }
        return what == 2 ? sets : best == null ? -2 : best[what];
    }

    int locks(int room, int what) {
        if (!isRiver() || room < 1 || room > 200 || what < 0 || what > 8) {
            return -1;
        }
        List<Integer> all = w().afloat();
        if (all.stream().anyMatch(t -> w().things.get(t).weight > room)) {
            return -2;
        }
        List<List<Integer>> ways = new ArrayList<>();
        ways(new ArrayList<>(), all, room, ways);
        int fewest = ways.stream().mapToInt(way -> new TreeSet<>(way).size()).min().orElse(0);
        if (what == 0) {
            return fewest;
        }
        List<Integer> way = ways.stream().filter(v -> new TreeSet<>(v).size() == fewest).findFirst().orElseThrow();
        return all.contains(what - 1) ? way.get(all.indexOf(what - 1)) : -1;
    }

    private void ways(List<Integer> way, List<Integer> all, int room, List<List<Integer>> into) {
        if (way.size() == all.size()) {
            into.add(new ArrayList<>(way));
            return;
        }
        int next = way.isEmpty() ? 0 : Collections.max(way) + 1;
        for (int l = 0; l <= next; l++) {
            int load = w().things.get(all.get(way.size())).weight;
            for (int i = 0; i < way.size(); i++) {
                load += way.get(i) == l ? w().things.get(all.get(i)).weight : 0;
            }
            if (load <= room) {
                way.add(l);
                ways(way, all, room, into);
                way.remove(way.size() - 1);
            }
        }
    }

    int delta(int what) {
        if (!isRiver() || what < 0 || what > 1) {
            return -1;
        }
        // Prim's way, from the piece of the first thing on
        List<Integer> all = w().afloat();
        int rope = 0;
        int binds = 0;
        if (all.isEmpty()) {
            return 0;
        }
        Set<Integer> in = new LinkedHashSet<>(w().piece(all.get(0)));
        while (in.size() < all.size()) {
            int least = Integer.MAX_VALUE;
            int next = -1;
            for (int a : in) {
                for (int b : all) {
                    int cost = 1 + Math.abs(w().things.get(a).weight - w().things.get(b).weight) / 5;
                    if (!in.contains(b) && cost < least) {
                        least = cost;
                        next = b;
                    }
                }
            }
            rope += least;
            binds++;
            in.addAll(w().piece(next));
        }
        return what == 0 ? rope : binds;
    }

    int weak(int what) {
        if (!isRiver() || what < 0 || what > 1) {
            return -1;
        }
        int bits = 0;
        if (what == 0) {
            for (int r = 0; r < w().ropes.size(); r++) {
                World w = w().copy();
                w.ropes.remove(r);
                bits |= w.pieces().size() > w().pieces().size() ? 1 << r : 0;
            }
        } else {
            for (int t : w().afloat()) {
                World w = w().copy();
                w.ropes.removeIf(r -> r.low == t || r.high == t);
                w.things.get(t).state = 1;
                int alone = w().piece(t).size() == 1 ? 1 : 0;
                bits |= w.pieces().size() > w().pieces().size() - alone ? 1 << t : 0;
            }
        }
        return bits;
    }

    int offer(int weight, int floats, int soak) {
        if (weight == -1) {
            now.offers.clear();
            return 0;
        }
        if (!isRiver() || now.offers.size() == 6 || weight < 0 || weight > 50 || floats < 0 || floats > 99
                || soak < 0 || soak > 9) {
            return -2;
        }
        now.offers.add(new int[] {weight, floats, soak});
        return now.offers.size();
    }

    int take(int thing, int what) {
        if (!isAfloat(thing) || what < 0 || what > 1) {
            return -1;
        }
        int[] best = {-2, -1};
        for (int i = -1; i < now.offers.size(); i++) {
            int[] offer = i < 0 ? new int[3] : now.offers.get(i).clone();
            World w = w().copy();
            int miles = 0;
            while (miles < 100 && w.margin(w.piece(thing)) + offer[1] - offer[0] >= 0) {
                miles++;
                w.soak();
                offer[1] = Math.max(0, offer[1] - offer[2]);
            }
            if (miles > best[1]) {
                best = new int[] {i < 0 ? -2 : i, miles};
            }
        }
        return best[what];
    }

    private boolean wins(Set<Integer> left) {
        return left.stream().anyMatch(t -> isWinning(left, t));
    }

    private boolean isWinning(Set<Integer> left, int t) {
        Set<Integer> rest = new TreeSet<>(left);
        rest.remove(t);
        return w().lift(rest) >= 0 && !wins(rest);
    }

    int game(int thing, int what) {
        if (!isAfloat(thing) || what < 0 || what > 1) {
            return -1;
        }
        TreeSet<Integer> piece = w().piece(thing);
        int move = piece.stream().filter(t -> isWinning(piece, t)).findFirst().orElse(-2);
        return what == 1 ? move : move == -2 ? 0 : 1;
    }

    int seed(int x) {
        if (x < 0) {
            return -1;
        }
        int old = (int) now.x;
        now.x = x;
        return old;
    }

    int drawn(int m, int n, int what) {
        if (!isRiver() || m < 1 || m > 20 || n < 1 || n > 60 || n > w().miles - w().mile || what < 0 || what > 2) {
            return -1;
        }
        long x = now.x;
        int[] sums = new int[3];
        for (int i = 0; i < m; i++) {
            World w = w().copy();
            for (int j = 0; j < n; j++) {
                x = Math.floorMod(x * 1103515245L + 12345L, 2147483648L);
                int[] tally = w.pass((int) (x / 65536 % 10));
                Arrays.setAll(sums, k -> sums[k] + tally[k]);
            }
        }
        return sums[what];
    }

    int count(int what) {
        int[] counts = {w().miles, w().store, w().owners.size(), w().things.size(), w().ropes.size(), w().rapids.size(),
            rules.size(), w().mile, w().pieces().size(), bits(w().afloat()), now.offers.size(), now.past.size(),
            (int) now.x, tape.size()};
        return what < 0 || what >= counts.length ? -1 : counts[what];
    }

    int image(int k) {
        if (k < 0 || k > 3) {
            return -1;
        }
        images[k] = now.copy();
        return w().mile;
    }

    int back(int k) {
        if (k < 0 || k > 3 || images[k] == null) {
            return -1;
        }
        now = images[k].copy();
        return w().mile;
    }
}
