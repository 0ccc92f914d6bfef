import java.util.ArrayList;
import java.util.List;
import java.util.Random;

/** Runs of calls by chance (always the same chance) on the class and on the Model beside it. */
public final class ModelTest {
    private static final int RUNS = 1200;
    private static final int CALLS = 90;
    private static final String[] WORDS = {"one", "other", "float", "weight", "soak", "same", "apart", "ropes",
        "store", "mile", "landing", "left"};
    private static final String[] SIGNS = {"<", "<=", "=", ">=", ">"};
    private static final String[] OPERATORS = {"+", "-", "*", "/", "%"};
    private static final String ODD_SIGNS = "abdefhinorstuvy0123456789 ;[]<=>+-*/%A!\u0000\u00ff";

    private final Random random;
    private final PartyRaft raft = new PartyRaft();
    private final Model model = new Model();
    private final List<String> log = new ArrayList<>();
    private boolean wrong;

    private ModelTest(long seed) {
        random = new Random(seed);
    }

    public static void main(String[] args) {
        int runs = args.length > 0 ? Integer.parseInt(args[0]) : RUNS;
        int bad = 0;
        for (int seed = 0; seed < runs && bad < 3; seed++) {
            ModelTest test = new ModelTest(seed);
            test.play();
            if (test.wrong) {
                bad++;
                System.out.println("run " + seed + ":");
                test.log.forEach(System.out::println);
            }
        }
        System.out.println(bad + " runs by chance are wrong");
        if (bad != 0) {
            System.exit(1);
        }
    }

    private void due(String call, int got, int want) {
        log.add("  " + call + " answered " + got + (got == want ? "" : ", due is " + want));
        wrong |= got != want;
    }

    private int below(int n) {
        return random.nextInt(n);
    }

    private boolean rarely(int n) {
        return random.nextInt(n) == 0;
    }

    /** A number from low to high, or a little beside them, or far off. */
    private int near(int low, int high) {
        if (rarely(40)) {
            int[] far = {Integer.MIN_VALUE, Integer.MAX_VALUE, -2, 1000, 31, 32, 33};
            return far[below(far.length)];
        }
        if (rarely(12)) {
            return rarely(2) ? low - 1 : high + 1;
        }
        return low + below(high - low + 1);
    }

    private void play() {
        if (!rarely(20)) {
            tellRiver();
        }
        int calls = rarely(8) ? 4 * CALLS : CALLS;
        for (int i = 0; i < calls && !wrong; i++) {
            switch (below(14)) {
                case 0:
                    if (rarely(4)) {
                        tellRiver();
                    }
                    break;
                case 1:
                    if (rarely(2)) {
                        tellRule();
                    }
                    break;
                case 2, 3, 4, 5:
                    act();
                    break;
                case 6:
                    lookAll();
                    break;
                default:
                    ask();
                    break;
            }
        }
        if (!wrong) {
            lookAll();
        }
    }

    private void tell(String text) {
        byte[] b = new byte[(text.length() + 19) / 20 * 20];
        for (int i = 0; i < text.length(); i++) {
            b[i] = (byte) text.charAt(i);
        }
        log.add("  text " + text);
        int had = raft.count(13);
        for (int i = 0; i < b.length; i += 20) {
            int[] n = new int[5];
            for (int j = 0; j < 20; j++) {
                n[j / 4] = n[j / 4] << 8 | b[i + j] & 255;
            }
            due("feed", raft.feed(n[0], n[1], n[2], n[3], n[4]), model.feed(n[0], n[1], n[2], n[3], n[4]));
        }
        int to = had + text.length();
        due("end", raft.end(to), model.end(to));
    }

    private String spoil(String text) {
        StringBuilder s = new StringBuilder(text);
        int edits = 1 + below(2);
        for (int i = 0; i < edits && s.length() > 0; i++) {
            int at = below(s.length());
            char c = ODD_SIGNS.charAt(below(ODD_SIGNS.length()));
            switch (below(4)) {
                case 0:
                    s.setCharAt(at, c);
                    break;
                case 1:
                    s.insert(at, c);
                    break;
                case 2:
                    s.deleteCharAt(at);
                    break;
                default:
                    s.setLength(at);
                    break;
            }
        }
        return s.toString();
    }

    private String blanks(String text) {
        StringBuilder s = new StringBuilder();
        for (char c : text.toCharArray()) {
            s.append(c);
            if (";[]<>=+-*/%".indexOf(c) >= 0 && rarely(6) && c != '<' && c != '>') {
                s.append(' ');
            }
            if (c == ' ' && rarely(10)) {
                s.append(' ');
            }
        }
        return s.toString();
    }

    private void tellRiver() {
        int miles = rarely(6) ? 2 + below(98) : 2 + below(12);
        List<String> clauses = new ArrayList<>();
        clauses.add("river " + miles + " " + below(rarely(3) ? 100 : 30));
        int owners = rarely(15) ? 7 : 1 + below(6);
        for (int i = 0; i < owners; i++) {
            clauses.add("owner " + (1 + below(miles)) + " " + below(rarely(2) ? 5 : 21));
        }
        int things = rarely(15) ? 9 : 1 + below(8);
        int style = below(3);
        for (int i = 0; i < things; i++) {
            int weight = below(style == 0 ? 51 : style == 1 ? 12 : 20);
            int floats = style == 0 ? below(100) : style == 1 ? below(30) : 20 + below(80);
            int soak = below(style == 2 || rarely(2) ? 3 : 10);
            clauses.add("thing " + below(owners) + " " + weight + " " + floats + " " + soak);
        }
        int ropes = below(14);
        Model.World seen = new Model.World();
        for (int i = 0; i < ropes; i++) {
            int a = below(things);
            int b = below(things);
            if (!rarely(30) && (a == b || seen.bound(a, b))) {
                continue;
            }
            seen.ropes.add(new Model.Rope(Math.min(a, b), Math.max(a, b), 1));
            clauses.add("bound " + a + " " + b + " " + (1 + below(9)));
        }
        int rapids = below(7);
        int mile = 1 + below(3);
        for (int i = 0; i < rapids && (mile <= miles || rarely(10)); i++) {
            clauses.add("rapid " + mile + " " + (1 + below(9)));
            mile += rarely(30) ? 0 : 1 + below(4);
        }
        String text = String.join(";", clauses);
        if (rarely(6)) {
            text = spoil(text);
        }
        text = blanks(text);
        if (text.length() > 400) {
            text = text.substring(0, 400);
        }
        log.add("  river");
        tell(text);
        due("river", raft.river(), model.river());
    }

    private String sum() {
        StringBuilder s = new StringBuilder();
        int values = 1 + below(rarely(4) ? 9 : 3);
        for (int i = 0; i < values; i++) {
            if (i > 0) {
                s.append(OPERATORS[below(5)]);
            }
            s.append(rarely(3) ? "" + below(rarely(3) ? 100000 : 12) : WORDS[below(WORDS.length)]);
        }
        return s.toString();
    }

    private String fact(int depth) {
        if (depth < 11 && rarely(4)) {
            return "not " + fact(depth + 1);
        }
        if (depth < 11 && rarely(4)) {
            return "[" + test(depth + 1) + "]";
        }
        if (rarely(60)) {
            return "not [".repeat(4 + below(3)) + "1=1" + "]".repeat(4 + below(3));
        }
        return sum() + SIGNS[below(5)] + sum();
    }

    private String test(int depth) {
        StringBuilder s = new StringBuilder(fact(depth));
        int more = below(3);
        for (int i = 0; i < more; i++) {
            s.append(rarely(2) ? " and " : " or ").append(fact(depth));
        }
        return s.toString();
    }

    private void tellRule() {
        int clauses = rarely(10) ? 14 : 1 + below(4);
        StringBuilder s = new StringBuilder();
        for (int i = 0; i < clauses; i++) {
            s.append(i > 0 ? ";" : "").append("tie ").append(sum()).append(rarely(3) ? "" : " if " + test(0));
        }
        String text = blanks(rarely(5) ? spoil(s.toString()) : s.toString());
        if (text.length() > 400) {
            text = text.substring(0, 400);
        }
        log.add("  rule");
        if (model.count(6) == 6) {
            due("rule", raft.rule(), model.rule());
            due("end", raft.end(0), model.end(0));
            return;
        }
        tell(text);
        due("rule", raft.rule(), model.rule());
    }

    private void act() {
        int a = near(0, 7);
        int b = near(0, 7);
        int c = near(1, 9);
        int k = near(0, 3);
        switch (below(12)) {
            case 0, 1:
                due("mile()", raft.mile(), model.mile());
                break;
            case 2, 3:
                due("bind(" + a + ", " + b + ", " + c + ")", raft.bind(a, b, c), model.bind(a, b, c));
                break;
            case 4:
                due("cut(" + a + ")", raft.cut(a), model.cut(a));
                break;
            case 5:
                if (rarely(3)) {
                    due("saw(" + a + ")", raft.saw(a), model.saw(a));
                }
                break;
            case 6:
                int o = near(0, 5);
                due("push(" + a + ", " + o + ")", raft.push(a, o), model.push(a, o));
                break;
            case 7:
                due("undo()", raft.undo(), model.undo());
                break;
            case 8:
                int n = near(1, 3);
                int r = near(0, Math.max(0, model.count(6) - 1));
                due("run(" + r + ", " + n + ", " + c + ")", raft.run(r, n, c), model.run(r, n, c));
                break;
            case 9:
                due("image(" + k + ")", raft.image(k), model.image(k));
                break;
            case 10:
                due("back(" + k + ")", raft.back(k), model.back(k));
                break;
            default:
                if (rarely(3)) {
                    int x = rarely(5) ? -1 - below(9) : random.nextInt() & Integer.MAX_VALUE;
                    due("seed(" + x + ")", raft.seed(x), model.seed(x));
                } else {
                    int w = rarely(9) ? -1 : near(0, 50);
                    int f = near(0, 99);
                    int s = near(0, 9);
                    due("offer(" + w + ", " + f + ", " + s + ")", raft.offer(w, f, s), model.offer(w, f, s));
                }
                break;
        }
    }

    private int set() {
        int afloat = model.count(9);
        return rarely(15) ? near(0, 255) : random.nextInt() & random.nextInt() & afloat;
    }

    private void ask() {
        int t = near(0, 7);
        int s = set();
        int yes = near(0, 1);
        switch (below(11)) {
            case 0:
                int n = near(0, Math.max(0, model.count(0) - model.count(7)));
                int what = near(0, 3);
                due("ahead(" + n + ", " + what + ")", raft.ahead(n, what), model.ahead(n, what));
                break;
            case 1:
                due("sinks(" + t + ")", raft.sinks(t), model.sinks(t));
                break;
            case 2:
                due("bearers(" + s + ", " + yes + ")", raft.bearers(s, yes), model.bearers(s, yes));
                break;
            case 3:
                if (Integer.bitCount(model.count(9)) < 7 || rarely(9)) {
                    int place = near(-1, 6);
                    due("plan(" + place + ")", raft.plan(place), model.plan(place));
                    due("plan(-1)", raft.plan(-1), model.plan(-1));
                }
                break;
            case 4:
                if (model.count(4) < 7 || rarely(20)) {
                    for (int i = 0; i < 3; i++) {
                        due("sawn(" + s + ", " + i + ")", raft.sawn(s, i), model.sawn(s, i));
                    }
                    int sunk = sunkBySaw();
                    int w = near(0, 2);
                    due("sawn(" + sunk + ", " + w + ")", raft.sawn(sunk, w), model.sawn(sunk, w));
                }
                break;
            case 5:
                int room = rarely(8) ? near(1, 200) : near(10, 60);
                int in = near(0, 8);
                due("locks(" + room + ", " + in + ")", raft.locks(room, in), model.locks(room, in));
                break;
            case 6:
                due("delta(" + yes + ")", raft.delta(yes), model.delta(yes));
                break;
            case 7:
                due("weak(" + yes + ")", raft.weak(yes), model.weak(yes));
                break;
            case 8:
                due("take(" + t + ", " + yes + ")", raft.take(t, yes), model.take(t, yes));
                break;
            case 9:
                if (Integer.bitCount(Math.max(0, model.thing(t, 5))) < 7 || rarely(9)) {
                    due("game(" + t + ", " + yes + ")", raft.game(t, yes), model.game(t, yes));
                }
                break;
            default:
                int m = near(1, rarely(4) ? 20 : 3);
                int left = Math.max(1, Math.min(60, model.count(0) - model.count(7)));
                int miles = near(1, left);
                int of = near(0, 2);
                due("drawn(" + m + ", " + miles + ", " + of + ")", raft.drawn(m, miles, of), model.drawn(m, miles, of));
                break;
        }
    }

    /** What could have sunk by some ropes that are gone, so that sawn has something to find. */
    private int sunkBySaw() {
        int set = 0;
        for (int t = 0; t < model.count(3); t++) {
            if (model.margin(t) < 0 && model.margin(t) > -10000) {
                set |= model.thing(t, 5);
            }
        }
        return set;
    }

    private void lookAll() {
        for (int what = -1; what <= 14; what++) {
            due("count(" + what + ")", raft.count(what), model.count(what));
        }
        for (int i = -1; i <= 12; i++) {
            for (int what = -1; what <= 6; what++) {
                due("owner(" + i + ", " + what + ")", raft.owner(i, what), model.owner(i, what));
                due("thing(" + i + ", " + what + ")", raft.thing(i, what), model.thing(i, what));
                due("rope(" + i + ", " + what + ")", raft.rope(i, what), model.rope(i, what));
            }
            due("margin(" + i + ")", raft.margin(i), model.margin(i));
            due("rapid(" + i + ")", raft.rapid(i), model.rapid(i));
        }
    }
}
