import java.math.BigInteger;

/**
 * The document's sentences on what is too small or too large, empty or full, or refused, each with a
 * test of its own: promises 29, 30, 32 and 33.
 */
public final class EdgeImageTest {
    private static final int[] FAR = {Integer.MIN_VALUE, -10000, -2, -1, 31, 32, 33, 65536, Integer.MAX_VALUE};
    private static final Twin.Ready[] ALL = {Twin.NEW, Twin.RICH, Twin.LAST, Twin.FULL};

    /** Ropes of strength 1 to 9: of a force one fewer than it is break. */
    private static final String NINE_ROPES = "river 99 0;owner 99 0" + ";thing 0 0 0 0".repeat(6)
        + ";bound 0 1 1;bound 0 2 2;bound 0 3 3;bound 0 4 4;bound 0 5 5;bound 1 2 6;bound 1 3 7;bound 1 4 8;bound 1 5 9";

    public static void main(String[] args) {
        seedBelowZero();
        seedWhatItWas();
        drawsGoRound();
        drawsOneBehindTheOther();
        drawnWithoutThese();
        drawnTimesAndMiles();
        drawnOrThatOfItsRapid();
        drawnXAsItWas();
        imageWithoutIt();
        imageTheMile();
        backNothingHappens();
        backAllIsAsItWas();
        backRulesAndTapeStay();
        backMoreThanOnce();
        imageInPlaceOfAnother();
        imageOfWhatCanBeUndone();
        Rig.close();
    }

    // ---- Promises 29 and 30 ----

    /** "NONE, and nothing happens, below 0." */
    private static void seedBelowZero() {
        Rig rig = new Rig("seed: nothing happens below 0");
        for (Twin.Ready ready : ALL) {
            for (int x : new int[] {-1, -2, -2147483647, Integer.MIN_VALUE}) {
                Twin.nothing(rig, ready, "seed(" + x + ")", r -> r.seed(x), -1);
            }
        }
    }

    /** "x becomes a number: what it was"; "x (0 to 2147483647; 0 at first)" */
    private static void seedWhatItWas() {
        Rig rig = new Rig("seed: what it was");
        int was = 0;
        for (int x : new int[] {0, 1, 2147483647, 2147483646, 0, 65536, 65536}) {
            rig.due("seed(" + x + ")", rig.raft.seed(x), was);
            rig.due("count(12)", rig.raft.count(12), x);
            was = x;
        }
        rig.due("without a river, too", rig.raft.count(0), 0);
        rig.river("river 9 9");
        rig.due("x stays with a new river", rig.raft.count(12), 65536);
    }

    private static BigInteger next(BigInteger x) {
        return x.multiply(BigInteger.valueOf(1103515245)).add(BigInteger.valueOf(12345)).mod(BigInteger.ONE.shiftLeft(31));
    }

    private static int force(BigInteger x) {
        return x.divide(BigInteger.valueOf(65536)).mod(BigInteger.TEN).intValue();
    }

    /** "x becomes x * 1103515245 + 12345, of 2147483648 the rest; a DRAW is x / 65536"; "a DRAW mod 10" */
    private static void drawsGoRound() {
        int[] edges = {0, 1, 2, 65535, 65536, 65537, 1073741823, 1073741824, 2147483645, 2147483646, 2147483647};
        for (int i = 0; i < 300; i++) {
            int x = i < edges.length ? edges[i] : (int) (i * 7158279L + 5 & Integer.MAX_VALUE);
            Rig rig = Rig.on("draws go round, from " + x + " on", NINE_ROPES);
            rig.raft.seed(x);
            int force = force(next(BigInteger.valueOf(x)));
            rig.due("force " + force, rig.raft.drawn(1, 1, 2), Math.max(0, force - 1));
        }
        // 2147483647 * 1103515245 + 12345 is 1043980748 then, and that by 65536 is 15929
        Rig rig = Rig.on("the greatest", NINE_ROPES);
        rig.raft.seed(2147483647);
        rig.due("force 9", rig.raft.drawn(1, 1, 2), 8);
    }

    /** "DRAWN m times (1 to 20) n MILES": the draws of all these come one behind the other. */
    private static void drawsOneBehindTheOther() {
        for (int m = 1; m <= 20; m++) {
            Rig rig = Rig.on("one behind the other", NINE_ROPES);
            rig.raft.seed(99);
            BigInteger x = BigInteger.valueOf(99);
            int broke = 0;
            for (int i = 0; i < m; i++) {
                int most = 0;
                for (int n = 0; n < 3; n++) {
                    x = next(x);
                    most = Math.max(most, force(x));
                }
                broke += Math.max(0, most - 1);
            }
            rig.due(m + " times 3 miles", rig.raft.drawn(m, 3, 2), broke);
        }
    }

    /** "NONE without these, or a RIVER." */
    private static void drawnWithoutThese() {
        Rig rig = new Rig("drawn: NONE without these, or a river");
        for (int what = 0; what < 3; what++) {
            int w = what;
            Twin.nothing(rig, Twin.NEW, "no river", r -> r.drawn(1, 1, w), -1);
            Twin.nothing(rig, Twin.LAST, "no mile is left", r -> r.drawn(1, 1, w), -1);
        }
        for (Twin.Ready ready : ALL) {
            Twin.nothing(rig, ready, "m 0", r -> r.drawn(0, 1, 0), -1);
            Twin.nothing(rig, ready, "m 21", r -> r.drawn(21, 1, 0), -1);
            Twin.nothing(rig, ready, "n 0", r -> r.drawn(1, 0, 0), -1);
            Twin.nothing(rig, ready, "n 61", r -> r.drawn(1, 61, 0), -1);
            Twin.nothing(rig, ready, "what -1", r -> r.drawn(1, 1, -1), -1);
            Twin.nothing(rig, ready, "what 3", r -> r.drawn(1, 1, 3), -1);
            for (int far : FAR) {
                Twin.nothing(rig, ready, "m " + far, r -> r.drawn(far, 1, 0), -1);
                Twin.nothing(rig, ready, "what " + far, r -> r.drawn(1, 1, far), -1);
                if (far < 1 || far > 60) {
                    Twin.nothing(rig, ready, "n " + far, r -> r.drawn(1, far, 0), -1);
                }
            }
        }
        Twin.nothing(rig, Twin.RICH, "one behind the last", r -> r.drawn(1, 19, 0), -1);
    }

    /** "m times (1 to 20) n MILES (1 to 60; not behind the last one) from now on" */
    private static void drawnTimesAndMiles() {
        Rig rig = Rig.on("1 to 20 times, 1 to 60 miles", "river 61 0;owner 60 0;owner 61 0;owner 61 1;thing 0 0 0 0;thing 1 1 60 1;thing 2 0 0 0");
        PartyRaft r = rig.raft;
        rig.due("once one mile: 2 sinks", r.drawn(1, 1, 0), 1);
        rig.due("twenty times", r.drawn(20, 1, 0), 20);
        rig.due("sixty miles: 1 sinks at the last of them", r.drawn(1, 60, 0), 2);
        rig.due("59 miles", r.drawn(1, 59, 0), 1);
        rig.due("sixty miles: 0 lands", r.drawn(1, 60, 1), 1);
        rig.due("59 miles", r.drawn(1, 59, 1), 0);
        rig.due("twenty times sixty", r.drawn(20, 60, 0), 40);
        rig.due("twenty times sixty", r.drawn(20, 60, 1), 20);
        rig.due("61 miles, though there are so many", r.drawn(1, 61, 0), -1);
        r.mile();
        rig.due("sixty miles to the last", r.drawn(20, 60, 1), 20);
        r.mile();
        rig.due("one behind the last", r.drawn(1, 60, 1), -1);
        rig.due("to the last", r.drawn(1, 59, 1), 1);
        for (int i = 2; i < 60; i++) {
            r.mile();
        }
        rig.due("mile 60", r.count(7), 60);
        rig.due("one is left", r.drawn(20, 1, 1), 0);
        rig.due("not two", r.drawn(1, 2, 1), -1);
        r.mile();
        rig.due("none is left", r.drawn(1, 1, 1), -1);
    }

    /** "the FORCE is a DRAW mod 10, or that of its RAPID, if that is greater" */
    private static void drawnOrThatOfItsRapid() {
        for (int rapid = 1; rapid <= 9; rapid++) {
            for (int x = 0; x < 40; x += 3) {
                Rig rig = Rig.on("or that of its rapid, if greater", NINE_ROPES + ";rapid 1 " + rapid);
                rig.raft.seed(x);
                int drawn = force(next(BigInteger.valueOf(x)));
                rig.due("rapid " + rapid + ", drawn " + drawn, rig.raft.drawn(1, 1, 2), Math.max(rapid, drawn) - 1);
            }
        }
        // what breaks is not in store, so nothing but the ropes that broke is told
        Rig rig = Rig.on("ropes that broke alone", "river 9 0;owner 1 0;owner 9 0;thing 0 0 9 0;thing 1 1 0 0;thing 1 0 0 0;thing 1 0 9 0;bound 0 1 9;bound 1 2 9;bound 0 3 9");
        rig.due("undone at a landing, or sunk, is not broken", rig.raft.drawn(20, 9, 2), 0);
        rig.due("sank", rig.raft.drawn(20, 9, 0), 40);
        // owner 1 is wet with 1 and 2, so 3 does not land
        rig.due("landed", rig.raft.drawn(20, 9, 1), 20);
    }

    /** "(x as it was)" */
    private static void drawnXAsItWas() {
        Rig rig = new Rig("x as it was");
        for (int x : new int[] {0, 12345, 2147483647}) {
            Twin.Ready ready = r -> {
                Twin.RICH.make(r);
                r.seed(x);
            };
            PartyRaft one = new PartyRaft();
            ready.make(one);
            for (int what = 0; what < 3; what++) {
                int w = what;
                int first = one.drawn(20, 18, w);
                rig.due("the same again", one.drawn(20, 18, w), first);
                rig.due("x", one.count(12), x);
                Twin.nothing(rig, ready, "drawn", r -> r.drawn(20, 18, w), first);
            }
        }
    }

    // ---- Promises 32 and 33 ----

    /** Promise 32: "NONE without it." */
    private static void imageWithoutIt() {
        Rig rig = new Rig("image: NONE without it");
        for (Twin.Ready ready : ALL) {
            Twin.nothing(rig, ready, "image(-1)", r -> r.image(-1), -1);
            Twin.nothing(rig, ready, "image(4)", r -> r.image(4), -1);
            for (int far : FAR) {
                Twin.nothing(rig, ready, "image(" + far + ")", r -> r.image(far), -1);
            }
        }
    }

    /** "An IMAGE is made: the MILE"; "IMAGES 0 to 3" */
    private static void imageTheMile() {
        Rig rig = new Rig("an image is made: the mile");
        int[] miles = {0, 2, 2, 0};
        for (int i = 0; i < ALL.length; i++) {
            int mile = miles[i];
            Twin.Ready ready = ALL[i];
            for (int k = 0; k < 4; k++) {
                int image = k;
                Twin.alikeButForImages(rig, "all else stays", r -> {
                    ready.make(r);
                    rig.due("image(" + image + ")", r.image(image), mile);
                }, ready);
            }
        }
        Rig four = Rig.on("each of the four by itself", "river 9 9;owner 9 0;thing 0 0 9 1");
        for (int k = 0; k < 4; k++) {
            four.due("image", four.raft.image(k), k);
            four.raft.mile();
        }
        for (int k = 3; k >= 0; k--) {
            four.due("back", four.raft.back(k), k);
            four.due("float", four.raft.thing(0, 2), 9 - k);
            four.due("acts", four.raft.count(11), k);
        }
    }

    /** Promise 33: "NONE, and nothing happens, if it was never made, or without it." */
    private static void backNothingHappens() {
        Rig rig = new Rig("back: nothing happens, if it was never made, or without it");
        for (Twin.Ready ready : ALL) {
            Twin.nothing(rig, ready, "back(-1)", r -> r.back(-1), -1);
            Twin.nothing(rig, ready, "back(4)", r -> r.back(4), -1);
            for (int far : FAR) {
                Twin.nothing(rig, ready, "back(" + far + ")", r -> r.back(far), -1);
            }
        }
        for (int k = 0; k < 4; k++) {
            int image = k;
            Twin.nothing(rig, Twin.NEW, "never made, " + k, r -> r.back(image), -1);
        }
        for (int k : new int[] {1, 3}) {
            Twin.nothing(rig, Twin.RICH, "never made, " + k, r -> r.back(k), -1);
        }
        for (int k : new int[] {0, 2, 3}) {
            Twin.nothing(rig, Twin.LAST, "never made, " + k, r -> r.back(k), -1);
        }
        // an image that is refused is not made
        Rig none = new Rig("an image that is refused");
        none.due("image(4)", none.raft.image(4), -1);
        for (int k = -1; k <= 4; k++) {
            none.due("back(" + k + ")", none.raft.back(k), -1);
        }
    }

    /** "All is as in an IMAGE: the MILE"; "all but the RULES and the TAPE, as it is ...; gone back to, it is as it was" */
    private static void backAllIsAsItWas() {
        Rig rig = new Rig("all is as in an image");
        int[] miles = {0, 2, 2, 0};
        for (int i = 0; i < ALL.length; i++) {
            int mile = miles[i];
            Twin.Ready ready = ALL[i];
            Twin.Ready image = r -> {
                ready.make(r);
                r.end(0);
                r.image(1);
            };
            Twin.nothing(rig, image, "back at once", r -> r.back(1), mile);
            Twin.nothing(rig, image, "back behind acts", r -> {
                r.mile();
                r.push(0, 2);
                r.push(3, 1);
                r.cut(0);
                r.bind(0, 4, 1);
                r.saw(1);
                r.offer(-1, 0, 0);
                r.offer(9, 9, 9);
                r.seed(1);
                r.undo();
                return r.back(1);
            }, mile);
            Twin.nothing(rig, image, "back behind a run", r -> {
                r.run(0, 1, 1);
                return r.back(1);
            }, mile);
            Twin.nothing(rig, image, "back behind all that could be undone", r -> {
                for (int n = 0; n < 21; n++) {
                    r.undo();
                }
                return r.back(1);
            }, mile);
            Twin.nothing(rig, image, "back behind another river", r -> {
                Rig.tell(r, "river 7 7;owner 7 7;thing 0 7 7 7;thing 0 7 7 7;bound 0 1 7;rapid 7 7");
                rig.due("river", r.river(), 2);
                r.mile();
                r.seed(7);
                return r.back(1);
            }, mile);
        }
    }

    /** "(these stay)" */
    private static void backRulesAndTapeStay() {
        Rig rig = Rig.on("rules and tape stay", "river 9 9;owner 9 0;thing 0 0 9 0;thing 0 0 9 0");
        PartyRaft r = rig.raft;
        rig.rule("tie 0");
        Rig.tell(r, "tie 1");
        rig.due("image", r.image(0), 0);
        rig.due("a rule", r.rule(), 1);
        r.mile();
        Rig.tell(r, "tie 0;tie 1");
        r.end(7);
        rig.due("back", r.back(0), 0);
        rig.due("rules", r.count(6), 2);
        rig.due("tape", r.count(13), 7);
        rig.due("the tape is what was told since", r.rule(), Rig.fault(6, 0));
        r.run(1, 1, 1);
        rig.due("the rule that was told since binds", r.count(4), 1);
        rig.due("back", r.back(0), 0);
        rig.due("the tape stays empty", r.count(13), 0);
        for (int i = 2; i < 6; i++) {
            rig.rule("tie 1");
        }
        rig.due("back", r.back(0), 0);
        rig.due("there are six still", r.rule(), -1);
    }

    private static void backMoreThanOnce() {
        Rig rig = Rig.on("an image stays", "river 9 9;owner 9 0;thing 0 0 9 1");
        rig.raft.mile();
        rig.raft.image(3);
        for (int i = 0; i < 3; i++) {
            rig.raft.mile();
            rig.raft.undo();
            rig.raft.undo();
            rig.due("mile", rig.raft.count(7), 0);
            rig.raft.seed(i + 1);
            rig.due("back", rig.raft.back(3), 1);
            rig.due("acts", rig.raft.count(11), 1);
            rig.due("x", rig.raft.count(12), 0);
        }
    }

    private static void imageInPlaceOfAnother() {
        Rig rig = Rig.on("an image in place of another", "river 9 9;owner 9 0;thing 0 0 9 1");
        rig.raft.image(0);
        rig.raft.image(1);
        rig.raft.mile();
        rig.due("image", rig.raft.image(0), 1);
        rig.raft.mile();
        rig.due("the other stays", rig.raft.back(1), 0);
        rig.due("float", rig.raft.thing(0, 2), 9);
        rig.due("the new one", rig.raft.back(0), 1);
        rig.due("float", rig.raft.thing(0, 2), 8);
        rig.due("a refused image changes none", rig.raft.image(4), -1);
        rig.due("the first", rig.raft.back(1), 0);
    }

    /** "(what can be UNDONE, too)" */
    private static void imageOfWhatCanBeUndone() {
        for (int acts : new int[] {0, 1, 19, 20, 21, 33}) {
            Rig rig = Rig.on("what can be undone, of " + acts, "river 99 9;owner 99 0;thing 0 0 99 1");
            for (int i = 0; i < acts; i++) {
                rig.raft.mile();
            }
            rig.due("image", rig.raft.image(2), acts);
            for (int i = 0; i < 25; i++) {
                rig.raft.saw(0);
            }
            rig.due("back", rig.raft.back(2), acts);
            int can = Math.min(20, acts);
            rig.due("acts", rig.raft.count(11), can);
            for (int i = 1; i <= can; i++) {
                rig.due("undo", rig.raft.undo(), can - i);
                rig.due("mile", rig.raft.count(7), acts - i);
            }
            rig.due("none can", rig.raft.undo(), -2);
            rig.due("back", rig.raft.back(2), acts);
            rig.due("acts", rig.raft.count(11), can);
        }
    }
}
