import java.util.Arrays;

/**
 * Rafts of what they carry: a river with owners, things, ropes and rapids, miles that are gone by
 * hand or by a rule, and what can be asked of all this. The words in capitals are the document's.
 */
public final class PartyRaft {
    public static final int NONE = -1;

    private static final int THERE_IS_NONE = -2;
    private static final int NO_MARGIN = -10000;
    private static final int TOO_MANY_TO_PLAN = -3;
    private static final int NO_SUCH_PLAN = -4;

    private static final int MOST_BYTES = 400;
    private static final int MOST_MILES = 99;
    private static final int MOST_OWNERS = 6;
    private static final int MOST_THINGS = 8;
    private static final int MOST_ROPES = 12;
    private static final int MOST_RAPIDS = 6;
    private static final int MOST_RULES = 6;
    private static final int MOST_OFFERS = 6;
    private static final int MOST_ACTS = 20;
    private static final int MOST_IMAGES = 4;
    private static final int MOST_PLANNED = 7;
    private static final int MOST_STRENGTH = 9;
    private static final int MOST_WEIGHT = 50;
    private static final int MOST_FLOAT = 99;
    private static final int MOST_SOAK = 9;
    private static final int MOST_ROOM = 200;
    private static final int MOST_DRAWN = 20;
    private static final int MOST_DRAWN_MILES = 60;
    private static final int SETS = 1 << MOST_THINGS;

    /** What has become of a THING, and of an OWNER: all begin where they are HERE. */
    private static final int HERE = 0;
    private static final int LANDED = 1;
    private static final int SUNK = 2;
    private static final int WET = 2;

    /** The places of a tally, as drawn asks for them. */
    private static final int TALLY_SANK = 0;
    private static final int TALLY_LANDED = 1;
    private static final int TALLY_BROKE = 2;

    /** The kinds of FAULTS. */
    private static final int ODD = 0;
    private static final int NOT_AS_TOLD = 1;
    private static final int TOO_DEEP = 2;
    private static final int ONE_PART_TOO_MANY = 3;
    private static final int ONE_CLAUSE_TOO_MANY = 4;

    private final Tape tape = new Tape();
    private final RiverReader riverReader = new RiverReader(tape);
    private final RuleReader ruleReader = new RuleReader(tape);
    private final State now = new State();
    private final State[] images = new State[MOST_IMAGES];
    private final boolean[] imaged = new boolean[MOST_IMAGES];
    private final Rule[] rules = new Rule[MOST_RULES];
    private int ruleCount;
    private final Pieces pieces = new Pieces();
    private final Questions questions = new Questions(now, pieces);
    private final Orders orders = new Orders(now.raft);
    private final Lockings lockings = new Lockings(now.raft);
    private final Raft trial = new Raft(now.river);
    private final int[] tally = new int[3];

    public PartyRaft() {
        for (int k = 0; k < MOST_IMAGES; k++) {
            images[k] = new State();
        }
        for (int r = 0; r < MOST_RULES; r++) {
            rules[r] = new Rule();
        }
    }

    public int feed(int a, int b, int c, int d, int e) {
        if (tape.length + 20 > MOST_BYTES) {
            return NONE;
        }
        tape.append(a);
        tape.append(b);
        tape.append(c);
        tape.append(d);
        tape.append(e);
        return tape.length;
    }

    public int end(int n) {
        if (n < 0 || n > tape.length) {
            return NONE;
        }
        tape.length = n;
        return n;
    }

    public int river() {
        boolean sound = riverReader.read();
        tape.length = 0;
        if (!sound) {
            return -2 - tape.fault;
        }
        now.begin(riverReader.river, riverReader.raft);
        return now.river.things;
    }

    public int rule() {
        if (ruleCount >= MOST_RULES) {
            return NONE;
        }
        boolean sound = ruleReader.read();
        tape.length = 0;
        if (!sound) {
            return -2 - tape.fault;
        }
        rules[ruleCount].copyFrom(ruleReader.rule);
        ruleCount++;
        return ruleCount - 1;
    }

    public int owner(int owner, int what) {
        if (owner < 0 || owner >= now.river.owners) {
            return NONE;
        }
        switch (what) {
            case 0:
                return now.river.landing[owner];
            case 1:
                return now.river.ownerWeight[owner];
            case 2:
                return now.raft.fate[owner];
            case 3:
                pieces.find(now.raft, 0);
                return leastOf(pieces.ridden[owner]);
            default:
                return NONE;
        }
    }

    public int thing(int thing, int what) {
        if (thing < 0 || thing >= now.river.things) {
            return NONE;
        }
        switch (what) {
            case 0:
                return now.raft.owner[thing];
            case 1:
                return now.river.weight[thing];
            case 2:
                return now.raft.floats[thing];
            case 3:
                return now.river.soak[thing];
            case 4:
                return now.raft.place[thing];
            case 5:
                pieces.join(now.raft, 0);
                return pieces.of[thing];
            default:
                return NONE;
        }
    }

    public int rope(int rope, int what) {
        if (rope < 0 || rope >= now.raft.ropes) {
            return NONE;
        }
        switch (what) {
            case 0:
                return now.raft.low[rope];
            case 1:
                return now.raft.high[rope];
            case 2:
                return now.raft.strength[rope];
            default:
                return NONE;
        }
    }

    public int rapid(int mile) {
        if (!hasRiver() || mile < 0 || mile > now.river.miles) {
            return NONE;
        }
        return now.river.force[mile];
    }

    public int margin(int thing) {
        if (!isAfloat(thing)) {
            return NO_MARGIN;
        }
        pieces.find(now.raft, 0);
        return pieces.marginOf(now.raft, pieces.of[thing]);
    }

    public int mile() {
        if (now.raft.milesLeft() < 1) {
            return NONE;
        }
        now.remember();
        Arrays.fill(tally, 0);
        now.raft.drift(0, pieces, tally);
        return tally[TALLY_SANK];
    }

    public int bind(int one, int other, int strength) {
        if (!isAfloat(one) || !isAfloat(other) || one == other || !isStrength(strength)) {
            return NONE;
        }
        if (now.raft.areBound(one, other) || !now.raft.canSpare(strength)) {
            return NONE;
        }
        now.remember();
        now.raft.spend(one, other, strength);
        return now.raft.ropes - 1;
    }

    public int cut(int rope) {
        if (rope < 0 || rope >= now.raft.ropes) {
            return NONE;
        }
        now.remember();
        now.raft.untie(1 << rope);
        return now.raft.store;
    }

    public int saw(int thing) {
        if (!isAfloat(thing)) {
            return NONE;
        }
        now.remember();
        int gone = now.raft.ropesOf(1 << thing);
        now.raft.lose(gone);
        return Integer.bitCount(gone);
    }

    public int push(int thing, int owner) {
        if (!isAfloat(thing) || owner < 0 || owner >= now.river.owners) {
            return NONE;
        }
        int giver = now.raft.owner[thing];
        if (giver == owner) {
            return NONE;
        }
        now.remember();
        now.raft.owner[thing] = owner;
        return giver;
    }

    public int undo() {
        if (now.acts < 1) {
            return THERE_IS_NONE;
        }
        now.recall();
        return now.acts;
    }

    public int run(int rule, int n, int strength) {
        if (rule < 0 || rule >= ruleCount || !isStrength(strength)) {
            return NONE;
        }
        if (n < 1 || n > now.raft.milesLeft()) {
            return NONE;
        }
        now.acts = 0;
        Arrays.fill(tally, 0);
        for (int i = 0; i < n; i++) {
            if (now.raft.canSpare(strength)) {
                tieBest(rules[rule], strength);
            }
            now.raft.drift(0, pieces, tally);
        }
        return tally[TALLY_SANK];
    }

    public int ahead(int n, int what) {
        if (!hasRiver() || n < 0 || n > now.raft.milesLeft()) {
            return NONE;
        }
        tryAhead(n);
        switch (what) {
            case 0:
                return trial.thingsAt(HERE);
            case 1:
                return trial.thingsAt(LANDED);
            case 2:
                return trial.thingsAt(SUNK);
            case 3:
                return trial.ownersOf(WET);
            default:
                return NONE;
        }
    }

    public int sinks(int thing) {
        if (thing < 0 || thing >= now.river.things) {
            return NONE;
        }
        tryAhead(now.raft.milesLeft());
        return trial.place[thing] == SUNK ? trial.sunkAt[thing] : THERE_IS_NONE;
    }

    public int bearers(int things, int what) {
        if (!isSetAfloat(things) || what < 0 || what > 1) {
            return NONE;
        }
        int set = questions.fewestBearers(things);
        if (set == NONE) {
            return THERE_IS_NONE;
        }
        return what == 0 ? Integer.bitCount(set) : set;
    }

    public int plan(int what) {
        if (!hasRiver() || what < NONE || what >= MOST_PLANNED) {
            return NO_SUCH_PLAN;
        }
        if (Integer.bitCount(now.raft.thingsAt(HERE)) > MOST_PLANNED) {
            return TOO_MANY_TO_PLAN;
        }
        orders.find();
        if (what == NONE) {
            return orders.rows;
        }
        return orders.rows > 0 && what < orders.length ? orders.first[what] : THERE_IS_NONE;
    }

    public int sawn(int things, int what) {
        if (!isSetAfloat(things) || what < 0 || what > 2) {
            return NONE;
        }
        questions.findSawn(things);
        if (what == 2) {
            return questions.sawnSets;
        }
        if (questions.sawnSets == 0) {
            return THERE_IS_NONE;
        }
        return what == 0 ? Integer.bitCount(questions.fewestSawn) : questions.fewestSawn;
    }

    public int locks(int room, int what) {
        if (!hasRiver() || room < 1 || room > MOST_ROOM || what < 0 || what > MOST_THINGS) {
            return NONE;
        }
        if (!lockings.find(room)) {
            return THERE_IS_NONE;
        }
        return what == 0 ? lockings.fewest : lockings.first[what - 1];
    }

    public int delta(int what) {
        if (!hasRiver() || what < 0 || what > 1) {
            return NONE;
        }
        questions.findDelta();
        return what == 0 ? questions.deltaRope : questions.deltaBinds;
    }

    public int weak(int what) {
        if (!hasRiver()) {
            return NONE;
        }
        switch (what) {
            case 0:
                return questions.weakRopes();
            case 1:
                return questions.weakThings();
            default:
                return NONE;
        }
    }

    public int offer(int weight, int floats, int soak) {
        if (weight == NONE) {
            now.offers = 0;
            return 0;
        }
        if (!hasRiver() || now.offers >= MOST_OFFERS || weight < 0 || weight > MOST_WEIGHT) {
            return THERE_IS_NONE;
        }
        if (floats < 0 || floats > MOST_FLOAT || soak < 0 || soak > MOST_SOAK) {
            return THERE_IS_NONE;
        }
        now.addOffer(weight, floats, soak);
        return now.offers;
    }

    public int take(int thing, int what) {
        if (!isAfloat(thing) || what < 0 || what > 1) {
            return NONE;
        }
        questions.findTake(thing);
        if (what == 1) {
            return questions.takeMiles;
        }
        return questions.takeOffer == NONE ? THERE_IS_NONE : questions.takeOffer;
    }

    public int game(int thing, int what) {
        if (!isAfloat(thing) || what < 0 || what > 1) {
            return NONE;
        }
        int move = questions.winningMove(thing);
        if (what == 0) {
            return move == NONE ? 0 : 1;
        }
        return move == NONE ? THERE_IS_NONE : move;
    }

    public int seed(int x) {
        if (x < 0) {
            return NONE;
        }
        int old = now.x;
        now.x = x;
        return old;
    }

    public int drawn(int m, int n, int what) {
        if (m < 1 || m > MOST_DRAWN || n < 1 || n > MOST_DRAWN_MILES) {
            return NONE;
        }
        if (n > now.raft.milesLeft() || what < 0 || what > 2) {
            return NONE;
        }
        Arrays.fill(tally, 0);
        int x = now.x;
        for (int i = 0; i < m; i++) {
            trial.copyFrom(now.raft);
            for (int j = 0; j < n; j++) {
                x = nextDraw(x);
                trial.drift(x / 65536 % 10, pieces, tally);
            }
        }
        return tally[what];
    }

    public int count(int what) {
        switch (what) {
            case 0:
                return now.river.miles;
            case 1:
                return now.raft.store;
            case 2:
                return now.river.owners;
            case 3:
                return now.river.things;
            case 4:
                return now.raft.ropes;
            case 5:
                return now.river.rapids;
            case 6:
                return ruleCount;
            case 7:
                return now.raft.mile;
            case 8:
                pieces.join(now.raft, 0);
                return pieces.howMany();
            case 9:
                return now.raft.thingsAt(HERE);
            case 10:
                return now.offers;
            case 11:
                return now.acts;
            case 12:
                return now.x;
            case 13:
                return tape.length;
            default:
                return NONE;
        }
    }

    public int image(int k) {
        if (k < 0 || k >= MOST_IMAGES) {
            return NONE;
        }
        images[k].copyFrom(now);
        imaged[k] = true;
        return now.raft.mile;
    }

    public int back(int k) {
        if (k < 0 || k >= MOST_IMAGES || !imaged[k]) {
            return NONE;
        }
        now.copyFrom(images[k]);
        return now.raft.mile;
    }

    private boolean hasRiver() {
        return now.river.miles > 0;
    }

    private boolean isAfloat(int thing) {
        return thing >= 0 && thing < now.river.things && now.raft.place[thing] == HERE;
    }

    private boolean isSetAfloat(int things) {
        return hasRiver() && (things & ~now.raft.thingsAt(HERE)) == 0;
    }

    private static boolean isStrength(int strength) {
        return strength >= 1 && strength <= MOST_STRENGTH;
    }

    /** The least THING of a set; NONE of an empty one. */
    private static int leastOf(int set) {
        for (int t = 0; t < MOST_THINGS; t++) {
            if (contains(set, t)) {
                return t;
            }
        }
        return NONE;
    }

    private static boolean contains(int set, int number) {
        return ((set >> number) & 1) != 0;
    }

    private static int nextDraw(int x) {
        return (int) ((x * 1103515245L + 12345L) % 2147483648L);
    }

    /** The raft of trial is what the raft becomes in n MILES. */
    private void tryAhead(int n) {
        trial.copyFrom(now.raft);
        for (int i = 0; i < n; i++) {
            trial.drift(0, pieces, tally);
        }
    }

    /** Binds the two THINGS that a RULE finds worth most, if it finds any worth something. */
    private void tieBest(Rule rule, int strength) {
        Raft raft = now.raft;
        pieces.join(raft, 0);
        long most = 0;
        int one = 0;
        int other = 0;
        for (int a = 0; a < now.river.things; a++) {
            for (int b = a + 1; b < now.river.things; b++) {
                if (!isAfloat(a) || !isAfloat(b) || raft.areBound(a, b)) {
                    continue;
                }
                long worth = rule.worth(raft, pieces, a, b);
                if (worth > most) {
                    most = worth;
                    one = a;
                    other = b;
                }
            }
        }
        if (most > 0) {
            raft.spend(one, other, strength);
        }
    }

    /** The bytes that were fed, and the reading of them, which stops at the first FAULT. */
    private static final class Tape {
        static final int END = -1;
        static final int MOST_DIGITS = 5;

        final byte[] bytes = new byte[MOST_BYTES];
        int length;
        int at;
        int from;
        int fault;

        void append(int number) {
            for (int shift = 24; shift >= 0 && length < MOST_BYTES; shift -= 8) {
                bytes[length] = (byte) (number >> shift);
                length++;
            }
        }

        void open() {
            at = 0;
            from = 0;
            fault = 0;
        }

        /** Notes a FAULT; false, so that a reader can answer with it. */
        boolean wrong(int place, int kind) {
            fault = 1 + 8 * place + kind;
            return false;
        }

        /** The byte that is next but for blanks, which are passed over. */
        int next() {
            while (at < length && bytes[at] == ' ') {
                at++;
            }
            return at < length ? bytes[at] & 255 : END;
        }

        boolean accept(int sign) {
            if (next() != sign) {
                return false;
            }
            from = at;
            at++;
            return true;
        }

        /** The second sign of two that are one: no blank may stand ahead of it. */
        boolean acceptAtOnce(int sign) {
            if (at >= length || bytes[at] != sign) {
                return false;
            }
            at++;
            return true;
        }

        static boolean isDigit(int sign) {
            return sign >= '0' && sign <= '9';
        }

        static boolean isLetter(int sign) {
            return sign >= 'a' && sign <= 'z';
        }

        /** A NUMBER from least to most; NONE, with its FAULT, if it does not stand here. */
        int number(int least, int most) {
            if (!isDigit(next())) {
                wrong(at, ODD);
                return NONE;
            }
            from = at;
            int value = 0;
            while (at < length && isDigit(bytes[at])) {
                if (at - from < MOST_DIGITS) {
                    value = value * 10 + bytes[at] - '0';
                }
                at++;
            }
            if (at - from > MOST_DIGITS || value < least || value > most) {
                wrong(from, NOT_AS_TOLD);
                return NONE;
            }
            return value;
        }

        /** Which WORD of a list, told with blanks between, stands here as a whole; NONE of them. */
        int wordAmong(String list) {
            next();
            int behind = at;
            while (behind < length && isLetter(bytes[behind])) {
                behind++;
            }
            int number = 0;
            int start = 0;
            for (int i = 0; i <= list.length(); i++) {
                if (i < list.length() && list.charAt(i) != ' ') {
                    continue;
                }
                if (i - start == behind - at && matches(list, start, i)) {
                    from = at;
                    at = behind;
                    return number;
                }
                number++;
                start = i + 1;
            }
            return NONE;
        }

        boolean acceptWord(String word) {
            return wordAmong(word) == 0;
        }

        private boolean matches(String list, int start, int stop) {
            for (int i = start; i < stop; i++) {
                int place = at + i - start;
                if (place >= length || list.charAt(i) != bytes[place]) {
                    return false;
                }
            }
            return true;
        }
    }

    /** What of a RIVER stays as it was told. */
    private static final class River {
        int miles;
        int owners;
        int things;
        int rapids;
        final int[] landing = new int[MOST_OWNERS];
        final int[] ownerWeight = new int[MOST_OWNERS];
        final int[] weight = new int[MOST_THINGS];
        final int[] soak = new int[MOST_THINGS];
        final int[] force = new int[MOST_MILES + 1];

        void clear() {
            miles = 0;
            owners = 0;
            things = 0;
            rapids = 0;
            Arrays.fill(force, 0);
        }

        void copyFrom(River other) {
            miles = other.miles;
            owners = other.owners;
            things = other.things;
            rapids = other.rapids;
            System.arraycopy(other.landing, 0, landing, 0, MOST_OWNERS);
            System.arraycopy(other.ownerWeight, 0, ownerWeight, 0, MOST_OWNERS);
            System.arraycopy(other.weight, 0, weight, 0, MOST_THINGS);
            System.arraycopy(other.soak, 0, soak, 0, MOST_THINGS);
            System.arraycopy(other.force, 0, force, 0, MOST_MILES + 1);
        }
    }

    /** Reads the TAPE as a RIVER, beside the one there is, which stays if there is a FAULT. */
    private static final class RiverReader {
        static final String KINDS = "river owner thing bound rapid";
        static final int MOST_CLAUSES = 40;
        static final int RIVER = 0;
        static final int OWNER = 1;
        static final int THING = 2;
        static final int BOUND = 3;
        static final int RAPID = 4;

        final Tape tape;
        final River river = new River();
        final Raft raft = new Raft(river);

        RiverReader(Tape tape) {
            this.tape = tape;
        }

        boolean read() {
            tape.open();
            river.clear();
            raft.clear();
            for (int n = 0; n <= MOST_CLAUSES; n++) {
                if (!readClause(n)) {
                    return false;
                }
                if (tape.next() == Tape.END) {
                    return true;
                }
                if (!tape.accept(';')) {
                    return tape.wrong(tape.at, ODD);
                }
            }
            return false;
        }

        private boolean readClause(int n) {
            int kind = tape.wordAmong(KINDS);
            if (kind == NONE) {
                return tape.wrong(tape.at, ODD);
            }
            boolean outOfPlace = (kind == RIVER) != (n == 0);
            if (n == MOST_CLAUSES || outOfPlace || isFull(kind)) {
                return tape.wrong(tape.from, ONE_CLAUSE_TOO_MANY);
            }
            switch (kind) {
                case OWNER:
                    return readOwner();
                case THING:
                    return readThing();
                case BOUND:
                    return readBound();
                case RAPID:
                    return readRapid();
                default:
                    return readMilesAndStore();
            }
        }

        private boolean isFull(int kind) {
            switch (kind) {
                case OWNER:
                    return river.owners >= MOST_OWNERS;
                case THING:
                    return river.things >= MOST_THINGS;
                case BOUND:
                    return raft.ropes >= MOST_ROPES;
                case RAPID:
                    return river.rapids >= MOST_RAPIDS;
                default:
                    return false;
            }
        }

        private boolean readMilesAndStore() {
            int miles = tape.number(2, MOST_MILES);
            if (miles == NONE) {
                return false;
            }
            int store = tape.number(0, 99);
            if (store == NONE) {
                return false;
            }
            river.miles = miles;
            raft.store = store;
            return true;
        }

        private boolean readOwner() {
            int landing = tape.number(1, river.miles);
            if (landing == NONE) {
                return false;
            }
            int weight = tape.number(0, 20);
            if (weight == NONE) {
                return false;
            }
            river.landing[river.owners] = landing;
            river.ownerWeight[river.owners] = weight;
            river.owners++;
            return true;
        }

        private boolean readThing() {
            int owner = tape.number(0, river.owners - 1);
            if (owner == NONE) {
                return false;
            }
            int weight = tape.number(0, MOST_WEIGHT);
            if (weight == NONE) {
                return false;
            }
            int floats = tape.number(0, MOST_FLOAT);
            if (floats == NONE) {
                return false;
            }
            int soak = tape.number(0, MOST_SOAK);
            if (soak == NONE) {
                return false;
            }
            raft.owner[river.things] = owner;
            raft.floats[river.things] = floats;
            river.weight[river.things] = weight;
            river.soak[river.things] = soak;
            river.things++;
            return true;
        }

        private boolean readBound() {
            int one = tape.number(0, river.things - 1);
            if (one == NONE) {
                return false;
            }
            int other = tape.number(0, river.things - 1);
            if (other == NONE) {
                return false;
            }
            if (other == one || raft.areBound(one, other)) {
                return tape.wrong(tape.from, NOT_AS_TOLD);
            }
            int strength = tape.number(1, MOST_STRENGTH);
            if (strength == NONE) {
                return false;
            }
            raft.tie(one, other, strength);
            return true;
        }

        private boolean readRapid() {
            int mile = tape.number(1, river.miles);
            if (mile == NONE) {
                return false;
            }
            if (river.force[mile] != 0) {
                return tape.wrong(tape.from, NOT_AS_TOLD);
            }
            int force = tape.number(1, 9);
            if (force == NONE) {
                return false;
            }
            river.force[mile] = force;
            river.rapids++;
            return true;
        }
    }

    /** A RULE as steps for a stack: the SUM of each CLAUSE, and behind it its TEST. */
    private static final class Rule {
        static final String WORDS =
            "one other float weight soak same apart ropes store mile landing left";
        static final int MOST_CLAUSES = 12;
        static final int STACK = 64;

        static final int KIND_BITS = 4;
        static final int KIND_MASK = 15;
        static final int NUMBER = 0;
        static final int WORD = 1;
        static final int NOT = 2;
        static final int ADD = 3;
        static final int SUBTRACT = 4;
        static final int MULTIPLY = 5;
        static final int DIVIDE = 6;
        static final int REST = 7;
        static final int LESS = 8;
        static final int AT_MOST = 9;
        static final int EQUAL = 10;
        static final int AT_LEAST = 11;
        static final int MORE = 12;
        static final int AND = 13;
        static final int OR = 14;

        final int[] code = new int[MOST_BYTES];
        int length;
        final int[] sumFrom = new int[MOST_CLAUSES];
        final int[] testFrom = new int[MOST_CLAUSES];
        final int[] clauseTo = new int[MOST_CLAUSES];
        int clauses;
        final long[] stack = new long[STACK];

        void clear() {
            length = 0;
            clauses = 0;
        }

        void copyFrom(Rule other) {
            length = other.length;
            clauses = other.clauses;
            System.arraycopy(other.code, 0, code, 0, MOST_BYTES);
            System.arraycopy(other.sumFrom, 0, sumFrom, 0, MOST_CLAUSES);
            System.arraycopy(other.testFrom, 0, testFrom, 0, MOST_CLAUSES);
            System.arraycopy(other.clauseTo, 0, clauseTo, 0, MOST_CLAUSES);
        }

        void add(int kind, int number) {
            if (length < MOST_BYTES) {
                code[length] = (number << KIND_BITS) + kind;
                length++;
            }
        }

        /** What it is worth by this RULE to bind two THINGS, the lesser first. */
        long worth(Raft raft, Pieces pieces, int one, int other) {
            for (int c = 0; c < clauses; c++) {
                boolean holds = testFrom[c] == clauseTo[c]
                    || valueOf(testFrom[c], clauseTo[c], raft, pieces, one, other) != 0;
                if (holds) {
                    return valueOf(sumFrom[c], testFrom[c], raft, pieces, one, other);
                }
            }
            return 0;
        }

        private long valueOf(int start, int stop, Raft raft, Pieces pieces, int one, int other) {
            int top = 0;
            for (int i = start; i < stop; i++) {
                int kind = code[i] & KIND_MASK;
                int number = code[i] >> KIND_BITS;
                int used = kind <= WORD ? 0 : kind == NOT ? 1 : 2;
                if (top < used || top - used >= STACK) {
                    return 0;
                }
                top -= used;
                if (kind == NUMBER) {
                    stack[top] = number;
                } else if (kind == WORD) {
                    stack[top] = wordOf(number, raft, pieces, one, other);
                } else if (kind == NOT) {
                    stack[top] = 1 - stack[top];
                } else {
                    stack[top] = join(kind, stack[top], stack[top + 1]);
                }
                top++;
            }
            return stack[0];
        }

        /** The numbers of the WORDS are their places in the list of them. */
        private static long wordOf(int word, Raft raft, Pieces pieces, int one, int other) {
            River river = raft.river;
            switch (word) {
                case 0:
                    return one;
                case 1:
                    return other;
                case 2:
                    return raft.floats[one] + raft.floats[other];
                case 3:
                    return river.weight[one] + river.weight[other];
                case 4:
                    return river.soak[one] + river.soak[other];
                case 5:
                    return raft.owner[one] == raft.owner[other] ? 1 : 0;
                case 6:
                    return contains(pieces.of[one], other) ? 0 : 1;
                case 7:
                    return Integer.bitCount(raft.ropesOf((1 << one) | (1 << other)));
                case 8:
                    return raft.store;
                case 9:
                    return raft.mile;
                case 10:
                    return Math.min(raft.landingOf(one), raft.landingOf(other));
                default:
                    return Integer.bitCount(raft.thingsAt(HERE));
            }
        }

        private static long join(int kind, long a, long b) {
            switch (kind) {
                case ADD:
                    return a + b;
                case SUBTRACT:
                    return a - b;
                case MULTIPLY:
                    return a * b;
                case DIVIDE:
                    return b == 0 ? 0 : a / b;
                case REST:
                    return b == 0 ? 0 : a % b;
                case LESS:
                    return a < b ? 1 : 0;
                case AT_MOST:
                    return a <= b ? 1 : 0;
                case EQUAL:
                    return a == b ? 1 : 0;
                case AT_LEAST:
                    return a >= b ? 1 : 0;
                case MORE:
                    return a > b ? 1 : 0;
                case AND:
                    return a & b;
                default:
                    return a | b;
            }
        }
    }

    /** Reads the TAPE as a RULE, beside those there are. */
    private static final class RuleReader {
        static final int MOST_DEPTH = 10;
        static final int MOST_PARTS = 60;

        final Tape tape;
        final Rule rule = new Rule();
        int parts;

        RuleReader(Tape tape) {
            this.tape = tape;
        }

        boolean read() {
            tape.open();
            rule.clear();
            parts = 0;
            for (int n = 0; n <= Rule.MOST_CLAUSES; n++) {
                if (!tape.acceptWord("tie")) {
                    return tape.wrong(tape.at, ODD);
                }
                if (n == Rule.MOST_CLAUSES) {
                    return tape.wrong(tape.from, ONE_CLAUSE_TOO_MANY);
                }
                rule.sumFrom[n] = rule.length;
                if (!readSum()) {
                    return false;
                }
                rule.testFrom[n] = rule.length;
                if (tape.acceptWord("if") && !readTest(0)) {
                    return false;
                }
                rule.clauseTo[n] = rule.length;
                rule.clauses = n + 1;
                if (tape.next() == Tape.END) {
                    return true;
                }
                if (!tape.accept(';')) {
                    return tape.wrong(tape.at, ODD);
                }
            }
            return false;
        }

        /** PARTS with or between; an or is put behind its second PART, which ends at the next or. */
        private boolean readTest(int depth) {
            if (!readFact(depth)) {
                return false;
            }
            boolean orIsOpen = false;
            for (int i = 0; i < MOST_BYTES; i++) {
                boolean and = tape.acceptWord("and");
                if (!and && !tape.acceptWord("or")) {
                    break;
                }
                if (!and && orIsOpen) {
                    rule.add(Rule.OR, 0);
                }
                if (!readFact(depth)) {
                    return false;
                }
                if (and) {
                    rule.add(Rule.AND, 0);
                } else {
                    orIsOpen = true;
                }
            }
            if (orIsOpen) {
                rule.add(Rule.OR, 0);
            }
            return true;
        }

        private boolean readFact(int depth) {
            boolean not = tape.acceptWord("not");
            if (not || tape.accept('[')) {
                if (depth >= MOST_DEPTH) {
                    return tape.wrong(tape.from, TOO_DEEP);
                }
                if (not) {
                    boolean sound = readFact(depth + 1);
                    rule.add(Rule.NOT, 0);
                    return sound;
                }
                return readTest(depth + 1) && (tape.accept(']') || tape.wrong(tape.at, ODD));
            }
            if (!readSum()) {
                return false;
            }
            int kind = acceptComparing();
            if (kind == NONE) {
                return tape.wrong(tape.at, ODD);
            }
            if (!isOnePartMore(tape.from) || !readSum()) {
                return false;
            }
            rule.add(kind, 0);
            return true;
        }

        /** A SIGN; it begins where the TAPE was read from last. */
        private int acceptComparing() {
            if (tape.accept('=')) {
                return Rule.EQUAL;
            }
            boolean less = tape.accept('<');
            if (!less && !tape.accept('>')) {
                return NONE;
            }
            if (tape.acceptAtOnce('=')) {
                return less ? Rule.AT_MOST : Rule.AT_LEAST;
            }
            return less ? Rule.LESS : Rule.MORE;
        }

        /** TERMS with + or - between; one of these is put behind its second TERM. */
        private boolean readSum() {
            if (!readValue()) {
                return false;
            }
            int open = NONE;
            for (int i = 0; i < MOST_BYTES; i++) {
                int kind = acceptOperator();
                if (kind == NONE) {
                    break;
                }
                boolean endsTerm = kind == Rule.ADD || kind == Rule.SUBTRACT;
                if (endsTerm && open != NONE) {
                    rule.add(open, 0);
                }
                if (!readValue()) {
                    return false;
                }
                if (endsTerm) {
                    open = kind;
                } else {
                    rule.add(kind, 0);
                }
            }
            if (open != NONE) {
                rule.add(open, 0);
            }
            return true;
        }

        private int acceptOperator() {
            if (tape.accept('+')) {
                return Rule.ADD;
            }
            if (tape.accept('-')) {
                return Rule.SUBTRACT;
            }
            if (tape.accept('*')) {
                return Rule.MULTIPLY;
            }
            if (tape.accept('/')) {
                return Rule.DIVIDE;
            }
            return tape.accept('%') ? Rule.REST : NONE;
        }

        private boolean readValue() {
            if (Tape.isDigit(tape.next())) {
                int number = tape.number(0, 99999);
                if (number == NONE) {
                    return false;
                }
                rule.add(Rule.NUMBER, number);
            } else {
                int word = tape.wordAmong(Rule.WORDS);
                if (word == NONE) {
                    return tape.wrong(tape.at, ODD);
                }
                rule.add(Rule.WORD, word);
            }
            return isOnePartMore(tape.from);
        }

        /** Counts a VALUE, or a FACT made of a SIGN; its place is told for the FAULT. */
        private boolean isOnePartMore(int place) {
            parts++;
            return parts <= MOST_PARTS || tape.wrong(place, ONE_PART_TOO_MANY);
        }
    }

    /** What of a RIVER changes by ACTS. */
    private static final class Raft {
        final River river;
        int mile;
        int store;
        int ropes;
        final int[] fate = new int[MOST_OWNERS];
        final int[] owner = new int[MOST_THINGS];
        final int[] floats = new int[MOST_THINGS];
        final int[] place = new int[MOST_THINGS];
        final int[] sunkAt = new int[MOST_THINGS];
        final int[] low = new int[MOST_ROPES];
        final int[] high = new int[MOST_ROPES];
        final int[] strength = new int[MOST_ROPES];

        Raft(River river) {
            this.river = river;
        }

        void clear() {
            mile = 0;
            store = 0;
            ropes = 0;
            Arrays.fill(fate, HERE);
            Arrays.fill(place, HERE);
            Arrays.fill(sunkAt, 0);
        }

        void copyFrom(Raft other) {
            mile = other.mile;
            store = other.store;
            ropes = other.ropes;
            System.arraycopy(other.fate, 0, fate, 0, MOST_OWNERS);
            System.arraycopy(other.owner, 0, owner, 0, MOST_THINGS);
            System.arraycopy(other.floats, 0, floats, 0, MOST_THINGS);
            System.arraycopy(other.place, 0, place, 0, MOST_THINGS);
            System.arraycopy(other.sunkAt, 0, sunkAt, 0, MOST_THINGS);
            System.arraycopy(other.low, 0, low, 0, MOST_ROPES);
            System.arraycopy(other.high, 0, high, 0, MOST_ROPES);
            System.arraycopy(other.strength, 0, strength, 0, MOST_ROPES);
        }

        int milesLeft() {
            return river.miles - mile;
        }

        int thingsAt(int where) {
            int set = 0;
            for (int t = 0; t < river.things; t++) {
                if (place[t] == where) {
                    set |= 1 << t;
                }
            }
            return set;
        }

        int ownersOf(int end) {
            int set = 0;
            for (int o = 0; o < river.owners; o++) {
                if (fate[o] == end) {
                    set |= 1 << o;
                }
            }
            return set;
        }

        /** The THINGS of an OWNER that are on the river. */
        int thingsOf(int whose) {
            int set = 0;
            for (int t = 0; t < river.things; t++) {
                if (owner[t] == whose && place[t] == HERE) {
                    set |= 1 << t;
                }
            }
            return set;
        }

        int landingOf(int thing) {
            return river.landing[owner[thing]];
        }

        /** The ROPES at any THING of a set, as bits. */
        int ropesOf(int things) {
            int set = 0;
            for (int r = 0; r < ropes; r++) {
                if (contains(things, low[r]) || contains(things, high[r])) {
                    set |= 1 << r;
                }
            }
            return set;
        }

        boolean areBound(int one, int other) {
            for (int r = 0; r < ropes; r++) {
                if (low[r] == Math.min(one, other) && high[r] == Math.max(one, other)) {
                    return true;
                }
            }
            return false;
        }

        boolean canSpare(int rope) {
            return ropes < MOST_ROPES && rope <= store;
        }

        void tie(int one, int other, int force) {
            if (ropes < MOST_ROPES) {
                low[ropes] = Math.min(one, other);
                high[ropes] = Math.max(one, other);
                strength[ropes] = force;
                ropes++;
            }
        }

        /** Ties with ROPE from the store. */
        void spend(int one, int other, int force) {
            tie(one, other, force);
            store -= force;
        }

        /** A set of ROPES is gone, the others are numbered anew. */
        void lose(int gone) {
            int kept = 0;
            for (int r = 0; r < ropes; r++) {
                if (contains(gone, r)) {
                    continue;
                }
                low[kept] = low[r];
                high[kept] = high[r];
                strength[kept] = strength[r];
                kept++;
            }
            ropes = kept;
        }

        /** A set of ROPES is in store again. */
        void untie(int undone) {
            for (int r = 0; r < ropes; r++) {
                if (contains(undone, r)) {
                    store += strength[r];
                }
            }
            lose(undone);
        }

        /** FLOAT less WEIGHT of a set of THINGS, when they have soaked for some MILES from now. */
        int lift(int things, int miles) {
            int sum = 0;
            for (int t = 0; t < river.things; t++) {
                if (contains(things, t)) {
                    sum += Math.max(0, floats[t] - miles * river.soak[t]) - river.weight[t];
                }
            }
            return sum;
        }

        /** A MILE, with the FORCE of its RAPID, or one that was drawn, if that is greater. */
        void drift(int drawn, Pieces pieces, int[] tally) {
            if (milesLeft() < 1) {
                return;
            }
            mile++;
            for (int t = 0; t < river.things; t++) {
                if (place[t] == HERE) {
                    floats[t] = Math.max(0, floats[t] - river.soak[t]);
                }
            }
            tally[TALLY_BROKE] += breakRopes(Math.max(drawn, river.force[mile]));
            tally[TALLY_LANDED] += land();
            tally[TALLY_SANK] += sink(pieces);
        }

        private int breakRopes(int force) {
            int broken = 0;
            for (int r = 0; r < ropes; r++) {
                if (strength[r] < force) {
                    broken |= 1 << r;
                }
            }
            lose(broken);
            return Integer.bitCount(broken);
        }

        private int land() {
            int ashore = 0;
            for (int o = 0; o < river.owners; o++) {
                if (fate[o] == HERE && river.landing[o] == mile) {
                    fate[o] = LANDED;
                    ashore |= thingsOf(o);
                }
            }
            for (int t = 0; t < river.things; t++) {
                if (contains(ashore, t)) {
                    place[t] = LANDED;
                }
            }
            untie(ropesOf(ashore));
            return Integer.bitCount(ashore);
        }

        private int sink(Pieces pieces) {
            pieces.find(this, 0);
            int lost = pieces.notFloating(this);
            for (int o = 0; o < river.owners; o++) {
                if ((pieces.ridden[o] & lost) != 0) {
                    fate[o] = WET;
                }
            }
            for (int t = 0; t < river.things; t++) {
                if (contains(lost, t)) {
                    place[t] = SUNK;
                    sunkAt[t] = mile;
                }
            }
            lose(ropesOf(lost));
            return Integer.bitCount(lost);
        }
    }

    /** The PIECES of a raft, as sets of THINGS: by THING, and by the OWNER who RIDES it. */
    private static final class Pieces {
        final int[] of = new int[MOST_THINGS];
        final int[] ridden = new int[MOST_OWNERS];

        /** Finds both, as they were if some ROPES were gone. */
        void find(Raft raft, int gone) {
            join(raft, gone);
            for (int o = 0; o < MOST_OWNERS; o++) {
                boolean aboard = o < raft.river.owners && raft.fate[o] == HERE;
                ridden[o] = aboard ? withMostOf(raft.thingsOf(o)) : 0;
            }
        }

        /** Finds the PIECES by THING alone. */
        void join(Raft raft, int gone) {
            for (int t = 0; t < MOST_THINGS; t++) {
                of[t] = t < raft.river.things && raft.place[t] == HERE ? 1 << t : 0;
            }
            for (int r = 0; r < raft.ropes; r++) {
                if (!contains(gone, r)) {
                    unite(raft.low[r], raft.high[r]);
                }
            }
        }

        void unite(int one, int other) {
            if (of[one] == of[other]) {
                return;
            }
            int both = of[one] | of[other];
            for (int t = 0; t < MOST_THINGS; t++) {
                if (contains(both, t)) {
                    of[t] = both;
                }
            }
        }

        /** Whether a THING is the least of its PIECE: each PIECE is met once by these. */
        boolean isLeast(int thing) {
            int lesser = (1 << thing) - 1;
            return of[thing] != 0 && (of[thing] & lesser) == 0;
        }

        int howMany() {
            int number = 0;
            for (int t = 0; t < MOST_THINGS; t++) {
                if (isLeast(t)) {
                    number++;
                }
            }
            return number;
        }

        private int withMostOf(int things) {
            int piece = 0;
            int most = 0;
            for (int t = 0; t < MOST_THINGS; t++) {
                int number = Integer.bitCount(of[t] & things);
                if (isLeast(t) && number > most) {
                    most = number;
                    piece = of[t];
                }
            }
            return piece;
        }

        int ridersWeight(Raft raft, int piece) {
            int sum = 0;
            for (int o = 0; o < raft.river.owners; o++) {
                if (ridden[o] != 0 && ridden[o] == piece) {
                    sum += raft.river.ownerWeight[o];
                }
            }
            return sum;
        }

        int marginOf(Raft raft, int piece) {
            return raft.lift(piece, 0) - ridersWeight(raft, piece);
        }

        int notFloating(Raft raft) {
            int set = 0;
            for (int t = 0; t < MOST_THINGS; t++) {
                if (isLeast(t) && marginOf(raft, of[t]) < 0) {
                    set |= of[t];
                }
            }
            return set;
        }
    }

    /** All that an IMAGE keeps. */
    private static final class State {
        final River river = new River();
        final Raft raft = new Raft(river);
        /** The raft as it was ahead of each of the last ACTS, as a ring. */
        final Raft[] past = new Raft[MOST_ACTS];
        int oldest;
        int acts;
        int offers;
        final int[] offerWeight = new int[MOST_OFFERS];
        final int[] offerFloat = new int[MOST_OFFERS];
        final int[] offerSoak = new int[MOST_OFFERS];
        int x;

        State() {
            for (int i = 0; i < MOST_ACTS; i++) {
                past[i] = new Raft(river);
            }
        }

        void begin(River newRiver, Raft newRaft) {
            river.copyFrom(newRiver);
            raft.copyFrom(newRaft);
            acts = 0;
            offers = 0;
        }

        void copyFrom(State other) {
            river.copyFrom(other.river);
            raft.copyFrom(other.raft);
            for (int i = 0; i < MOST_ACTS; i++) {
                past[i].copyFrom(other.past[i]);
            }
            oldest = other.oldest;
            acts = other.acts;
            offers = other.offers;
            System.arraycopy(other.offerWeight, 0, offerWeight, 0, MOST_OFFERS);
            System.arraycopy(other.offerFloat, 0, offerFloat, 0, MOST_OFFERS);
            System.arraycopy(other.offerSoak, 0, offerSoak, 0, MOST_OFFERS);
            x = other.x;
        }

        /** Keeps the raft as it is ahead of an ACT; of too many the oldest is forgotten. */
        void remember() {
            past[(oldest + acts) % MOST_ACTS].copyFrom(raft);
            if (acts < MOST_ACTS) {
                acts++;
            } else {
                oldest = (oldest + 1) % MOST_ACTS;
            }
        }

        void recall() {
            if (acts > 0) {
                acts--;
                raft.copyFrom(past[(oldest + acts) % MOST_ACTS]);
            }
        }

        void addOffer(int weight, int floats, int soak) {
            if (offers < MOST_OFFERS) {
                offerWeight[offers] = weight;
                offerFloat[offers] = floats;
                offerSoak[offers] = soak;
                offers++;
            }
        }
    }

    /** BEARERS, SAWN, DELTA, WEAK, TAKE and GAME. */
    private static final class Questions {
        static final int MOST_MILES_TAKEN = 100;

        final State state;
        final Raft raft;
        final Pieces pieces;
        /** By the set of THINGS that are left: the least one by which who is to take wins. */
        final int[] moves = new int[SETS];
        int sawnSets;
        int fewestSawn;
        int deltaRope;
        int deltaBinds;
        int takeOffer;
        int takeMiles;

        Questions(State state, Pieces pieces) {
            this.state = state;
            this.raft = state.raft;
            this.pieces = pieces;
        }

        int fewestBearers(int things) {
            int others = raft.thingsAt(HERE) & ~things;
            int fewest = NONE;
            for (int set = 0; set < SETS; set++) {
                if ((set & ~others) != 0 || raft.lift(things | set, 0) < 0) {
                    continue;
                }
                if (fewest == NONE || Integer.bitCount(set) < Integer.bitCount(fewest)) {
                    fewest = set;
                }
            }
            return fewest;
        }

        void findSawn(int things) {
            sawnSets = 0;
            fewestSawn = 0;
            for (int gone = 0; gone < 1 << raft.ropes; gone++) {
                pieces.find(raft, gone);
                if (pieces.notFloating(raft) != things) {
                    continue;
                }
                if (sawnSets == 0 || Integer.bitCount(gone) < Integer.bitCount(fewestSawn)) {
                    fewestSawn = gone;
                }
                sawnSets++;
            }
        }

        /** The cheapest binding between two PIECES is always part of a least way to one PIECE. */
        void findDelta() {
            deltaRope = 0;
            deltaBinds = 0;
            pieces.join(raft, 0);
            int binds = pieces.howMany() - 1;
            for (int i = 0; i < binds; i++) {
                bindCheapest();
            }
        }

        private void bindCheapest() {
            int least = NONE;
            int one = 0;
            int other = 0;
            for (int a = 0; a < MOST_THINGS; a++) {
                for (int b = a + 1; b < MOST_THINGS; b++) {
                    if (pieces.of[a] == 0 || pieces.of[b] == 0 || pieces.of[a] == pieces.of[b]) {
                        continue;
                    }
                    int rope = 1 + Math.abs(raft.river.weight[a] - raft.river.weight[b]) / 5;
                    if (least == NONE || rope < least) {
                        least = rope;
                        one = a;
                        other = b;
                    }
                }
            }
            if (least != NONE) {
                pieces.unite(one, other);
                deltaRope += least;
                deltaBinds++;
            }
        }

        int weakRopes() {
            int set = 0;
            for (int r = 0; r < raft.ropes; r++) {
                pieces.join(raft, 1 << r);
                if (!contains(pieces.of[raft.low[r]], raft.high[r])) {
                    set |= 1 << r;
                }
            }
            return set;
        }

        int weakThings() {
            int set = 0;
            for (int t = 0; t < raft.river.things; t++) {
                pieces.join(raft, 0);
                int others = pieces.of[t] & ~(1 << t);
                pieces.join(raft, raft.ropesOf(1 << t));
                int first = leastOf(others);
                if (first != NONE && pieces.of[first] != others) {
                    set |= 1 << t;
                }
            }
            return set;
        }

        void findTake(int thing) {
            pieces.find(raft, 0);
            int piece = pieces.of[thing];
            takeOffer = NONE;
            takeMiles = milesAfloat(piece, NONE);
            for (int i = 0; i < state.offers; i++) {
                int miles = milesAfloat(piece, i);
                if (miles > takeMiles) {
                    takeMiles = miles;
                    takeOffer = i;
                }
            }
        }

        private int milesAfloat(int piece, int offer) {
            int riders = pieces.ridersWeight(raft, piece);
            for (int miles = 0; miles < MOST_MILES_TAKEN; miles++) {
                int margin = raft.lift(piece, miles) - riders;
                if (offer != NONE) {
                    int floats = state.offerFloat[offer] - miles * state.offerSoak[offer];
                    margin += Math.max(0, floats) - state.offerWeight[offer];
                }
                if (margin < 0) {
                    return miles;
                }
            }
            return MOST_MILES_TAKEN;
        }

        /** The least THING by which who begins wins on the PIECE of a THING; NONE: who begins loses. */
        int winningMove(int thing) {
            pieces.join(raft, 0);
            int piece = pieces.of[thing];
            for (int set = 0; set <= piece; set++) {
                if ((set & ~piece) == 0) {
                    moves[set] = moveFrom(set);
                }
            }
            return moves[piece];
        }

        private int moveFrom(int set) {
            for (int t = 0; t < MOST_THINGS; t++) {
                int left = set & ~(1 << t);
                if (left != set && moves[left] == NONE && raft.lift(left, 0) >= 0) {
                    return t;
                }
            }
            return NONE;
        }
    }

    /** PLAN. */
    private static final class Orders {
        final Raft raft;
        final int[] together = new int[MOST_OWNERS];
        int groups;
        /** By the set of THINGS that stand already: in how many ways the row can go on. */
        final int[] ways = new int[SETS];
        final int[] first = new int[MOST_THINGS];
        int length;
        int rows;

        Orders(Raft raft) {
            this.raft = raft;
        }

        void find() {
            int all = raft.thingsAt(HERE);
            length = 0;
            rows = 0;
            if (raft.lift(all, 0) < 0 || !findGroups(all)) {
                return;
            }
            for (int set = all; set >= 0; set--) {
                if ((set & ~all) == 0) {
                    ways[set] = set == all ? 1 : waysBehind(set, all);
                }
            }
            rows = ways[0];
            findFirst(all);
        }

        /** The sets that have to stand together; false, if one of them doesn't float. */
        private boolean findGroups(int all) {
            groups = 0;
            for (int mile = raft.mile + 1; mile <= raft.river.miles; mile++) {
                int later = 0;
                boolean isLanding = false;
                for (int t = 0; t < raft.river.things; t++) {
                    if (!contains(all, t)) {
                        continue;
                    }
                    if (raft.landingOf(t) == mile) {
                        isLanding = true;
                    }
                    if (raft.landingOf(t) > mile) {
                        later |= 1 << t;
                    }
                }
                if (!isLanding) {
                    continue;
                }
                if (raft.lift(later, mile - raft.mile) < 0) {
                    return false;
                }
                if (groups < MOST_OWNERS) {
                    together[groups] = later;
                    groups++;
                }
            }
            return true;
        }

        private int waysBehind(int set, int all) {
            int sum = 0;
            for (int t = 0; t < MOST_THINGS; t++) {
                if (canFollow(set, t, all)) {
                    sum += ways[set | (1 << t)];
                }
            }
            return sum;
        }

        /** A group that has begun to stand, and is not whole, has to go on. */
        private boolean canFollow(int set, int thing, int all) {
            if (contains(set, thing) || !contains(all, thing)) {
                return false;
            }
            for (int g = 0; g < groups; g++) {
                int standing = set & together[g];
                boolean begun = standing != 0 && standing != together[g];
                if (begun && !contains(together[g], thing)) {
                    return false;
                }
            }
            return true;
        }

        private void findFirst(int all) {
            int set = 0;
            for (int i = 0; i < MOST_THINGS && set != all; i++) {
                for (int t = 0; t < MOST_THINGS; t++) {
                    if (canFollow(set, t, all) && ways[set | (1 << t)] > 0) {
                        first[i] = t;
                        length = i + 1;
                        set |= 1 << t;
                        break;
                    }
                }
            }
        }
    }

    /** LOCKS: all ways are gone through in their order, so the first of the fewest stays. */
    private static final class Lockings {
        final Raft raft;
        int room;
        int fewest;
        final int[] first = new int[MOST_THINGS];
        final int[] way = new int[MOST_THINGS];
        final int[] load = new int[MOST_THINGS];

        Lockings(Raft raft) {
            this.raft = raft;
        }

        /** False: there is no way. */
        boolean find(int roomOfEach) {
            room = roomOfEach;
            fewest = MOST_THINGS + 1;
            Arrays.fill(load, 0);
            putFrom(0, 0);
            return fewest <= MOST_THINGS;
        }

        private void putFrom(int thing, int used) {
            if (used >= fewest) {
                return;
            }
            if (thing >= MOST_THINGS) {
                fewest = used;
                System.arraycopy(way, 0, first, 0, MOST_THINGS);
                return;
            }
            if (thing >= raft.river.things || raft.place[thing] != HERE) {
                way[thing] = NONE;
                putFrom(thing + 1, used);
                return;
            }
            int weight = raft.river.weight[thing];
            for (int l = 0; l <= used && l < MOST_THINGS; l++) {
                if (load[l] + weight <= room) {
                    load[l] += weight;
                    way[thing] = l;
                    putFrom(thing + 1, Math.max(used, l + 1));
                    load[l] -= weight;
                }
            }
        }
    }
}
