/**
 * The document's sentences on what is too small or too large, empty or full, or refused, each with a
 * test of its own: promises 11 to 17, and part II. of the terms.
 */
public final class EdgeActTest {
    private static final int[] FAR = {Integer.MIN_VALUE, -10000, -2, -1, 31, 32, 33, 65536, Integer.MAX_VALUE};
    private static final Twin.Ready[] ALL = {Twin.NEW, Twin.RICH, Twin.LAST, Twin.FULL};

    public static void main(String[] args) {
        floatIsZeroAtLeast();
        ropesOfLessStrengthBreak();
        allOfTheirThingsLand();
        whoIsNotAboardDoesNotLand();
        piecesThatDoNotFloatSink();
        mileNothingHappens();
        mileTheLastOne();
        ropesAreNumberedFromZero();
        bindNothingHappens();
        bindAsMuchRope();
        bindTwelveRopes();
        bindNotBoundToOneAnother();
        cutNothingHappens();
        cutInStoreAgain();
        sawNothingHappens();
        sawAllOfItsRopes();
        pushNothingHappens();
        pushAnotherOwner();
        nothingSinksTillTheNextMile();
        undoNoneCan();
        undoTheLastTwenty();
        undoEachAct();
        undoOnlyActs();
        runNothingHappens();
        runToTheLastMile();
        runIfThereIsSoMuchRope();
        runFewerThanTwelveRopes();
        runIfItIsAboveZero();
        runOfSeveralTheFirst();
        runFirstClauseThatHolds();
        runNothingCanBeUndone();
        runArithmetic();
        runTests();
        runWords();
        runNotAndOr();
        Rig.close();
    }

    // ---- A MILE ----

    /** "FLOAT of each THING on the river is SOAK less (0 at least)" */
    private static void floatIsZeroAtLeast() {
        Rig rig = Rig.on("float is 0 at least", "river 20 0;owner 20 0;thing 0 0 9 9;thing 0 0 9 8;thing 0 0 8 9;thing 0 0 0 9;thing 0 0 99 9;thing 0 0 0 0");
        int[][] want = {{0, 1, 0, 0, 90, 0}, {0, 0, 0, 0, 81, 0}, {0, 0, 0, 0, 72, 0}};
        for (int[] floats : want) {
            rig.due("mile", rig.raft.mile(), 0);
            for (int t = 0; t < floats.length; t++) {
                rig.due("float of " + t, rig.raft.thing(t, 2), floats[t]);
            }
        }
        for (int i = 0; i < 9; i++) {
            rig.raft.mile();
        }
        rig.due("99 less nine times 11", rig.raft.thing(4, 2), 0);
        rig.due("margin", rig.raft.margin(4), 0);
    }

    /** "At a RAPID all ROPES of less STRENGTH than its FORCE BREAK." */
    private static void ropesOfLessStrengthBreak() {
        for (int force = 1; force <= 9; force++) {
            Rig rig = Rig.on("ropes of less strength than " + force, "river 2 50;owner 2 0" + ";thing 0 0 9 0".repeat(6)
                + ";bound 0 1 1;bound 0 2 2;bound 0 3 3;bound 0 4 4;bound 0 5 5;bound 1 2 6;bound 1 3 7;bound 1 4 8;bound 1 5 9;rapid 1 " + force);
            rig.due("mile", rig.raft.mile(), 0);
            rig.due("ropes", rig.raft.count(4), 10 - force);
            rig.due("the first that is left", rig.raft.rope(0, 2), force);
            rig.due("the last that is left", rig.raft.rope(9 - force, 2), 9);
            rig.due("what broke is not in store", rig.raft.count(1), 50);
        }
        Rig rig = Rig.on("no rapid", "river 3 50;owner 3 0;thing 0 0 9 0;thing 0 0 9 0;bound 0 1 1;rapid 2 2");
        rig.raft.mile();
        rig.due("the mile ahead of it", rig.raft.count(4), 1);
        rig.raft.mile();
        rig.due("at it", rig.raft.count(4), 0);
    }

    /** "OWNERS aboard whose LANDING it is LAND with all of their THINGS on the river; ROPES of these are undone, their STRENGTH is ROPE in store again." */
    private static void allOfTheirThingsLand() {
        Rig rig = Rig.on("they land with all of their things", "river 3 99;owner 2 20;owner 2 0;owner 3 0;owner 2 5;thing 0 50 9 0;thing 1 0 9 0;thing 0 0 99 0;"
            + "thing 2 0 9 0;thing 2 0 9 0;bound 0 2 9;bound 2 3 8;bound 1 2 7;bound 3 4 6;bound 1 4 5;rapid 2 6");
        rig.raft.mile();
        rig.due("nobody at the mile ahead", rig.raft.ahead(0, 1), 0);
        rig.due("mile", rig.raft.mile(), 0);
        rig.due("landed", rig.raft.ahead(0, 1), 7);
        rig.due("on the river", rig.raft.count(9), 24);
        for (int o = 0; o < 4; o++) {
            rig.due("owner " + o, rig.raft.owner(o, 2), o == 2 ? 0 : 1);
        }
        // the rope of 5 broke ahead of the landing, that of 6 is not of these
        rig.due("store", rig.raft.count(1), 99 + 9 + 8 + 7);
        rig.due("rope", rig.raft.rope(0, 2), 6);
        rig.due("ropes", rig.raft.count(4), 1);
    }

    /** "who RIDES one of these is WET, and aboard no more" */
    private static void whoIsNotAboardDoesNotLand() {
        Rig rig = Rig.on("who is not aboard does not land", "river 4 9;owner 2 1;owner 1 0;owner 4 0;thing 0 0 0 0;thing 0 0 9 0;thing 1 0 9 0;thing 2 0 9 0");
        rig.due("mile", rig.raft.mile(), 1);
        rig.due("wet", rig.raft.owner(0, 2), 2);
        rig.due("landed", rig.raft.owner(1, 2), 1);
        rig.raft.push(3, 1);
        rig.due("mile", rig.raft.mile(), 0);
        rig.due("who is wet stays wet", rig.raft.owner(0, 2), 2);
        rig.due("their thing floats on", rig.raft.thing(1, 4), 0);
        rig.due("what was given to one who landed floats on", rig.raft.thing(3, 4), 0);
        rig.raft.mile();
        rig.raft.mile();
        rig.due("to the last mile", rig.raft.count(9), 2 + 8);
        rig.due("who has nothing on the river lands though", rig.raft.owner(2, 2), 1);
    }

    /** "THINGS of all PIECES that do not FLOAT then SINK, with their ROPES" */
    private static void piecesThatDoNotFloatSink() {
        Rig rig = Rig.on("pieces that do not float", "river 4 9;owner 4 1;owner 4 1;owner 4 0;thing 0 5 6 0;thing 1 5 5 0;thing 2 5 4 0;thing 2 5 5 0;thing 2 9 9 0;thing 2 9 8 0;bound 4 5 3");
        // margins: 0, -1, -1, 0, and 4 with 5: -1 (owner 2 rides that, with two of theirs)
        rig.due("mile", rig.raft.mile(), 4);
        rig.due("on the river", rig.raft.count(9), 1 + 8);
        rig.due("wet", rig.raft.ahead(0, 3), 2 + 4);
        rig.due("the ropes are gone", rig.raft.count(4), 0);
        rig.due("and not in store", rig.raft.count(1), 9);
        // all are asked at once: owner 0 does not ride another piece when theirs has sunk
        rig = Rig.on("all at once", "river 4 9;owner 4 5;thing 0 0 4 0;thing 0 0 4 0");
        rig.due("mile", rig.raft.mile(), 1);
        rig.due("the second floats without the owner", rig.raft.mile(), 0);
        rig.due("on the river", rig.raft.count(9), 2);
        rig = Rig.on("soaked, broken and landed first", "river 4 9;owner 1 0;owner 4 0;thing 0 0 9 0;thing 1 3 9 7;thing 1 3 2 0;thing 1 0 9 0;bound 0 1 9;bound 2 3 4;rapid 1 5");
        rig.due("1 by soaking and its landed neighbour, 2 by the rapid", rig.raft.mile(), 2);
        rig.due("on the river", rig.raft.count(9), 8);
        rig.due("store", rig.raft.count(1), 18);
    }

    /** Promise 11: "how many THINGS SANK; NONE, and nothing happens, without a RIVER, or at the last one." */
    private static void mileNothingHappens() {
        Rig rig = new Rig("mile: nothing happens without a river, or at the last one");
        Twin.nothing(rig, Twin.NEW, "mile()", PartyRaft::mile, -1);
        Twin.nothing(rig, Twin.LAST, "mile()", PartyRaft::mile, -1);
        Twin.nothing(rig, Twin.LAST, "mile() three times", r -> r.mile() + r.mile() + r.mile(), -3);
    }

    /** "a MILE (not behind the last one)" */
    private static void mileTheLastOne() {
        for (int miles : new int[] {2, 3, 99}) {
            Rig rig = Rig.on("not behind the last of " + miles, "river " + miles + " 0;owner " + miles + " 0;thing 0 0 0 0");
            for (int i = 1; i <= miles; i++) {
                rig.due("mile", rig.raft.mile(), 0);
                rig.due("count(7)", rig.raft.count(7), i);
                rig.due("landed", rig.raft.thing(0, 4), i == miles ? 1 : 0);
            }
            rig.due("one more", rig.raft.mile(), -1);
            rig.due("count(7)", rig.raft.count(7), miles);
            rig.due("undo", rig.raft.undo(), Math.min(20, miles) - 1);
            rig.due("the last again", rig.raft.mile(), 0);
            rig.due("one more", rig.raft.mile(), -1);
        }
        Rig rig = Rig.on("all sink", "river 2 0;owner 2 0" + ";thing 0 1 0 0".repeat(8));
        rig.due("eight at once", rig.raft.mile(), 8);
        rig.due("none is left", rig.raft.mile(), 0);
    }

    /** "ROPES that are left are numbered in their order from 0 on." */
    private static void ropesAreNumberedFromZero() {
        Rig rig = Rig.on("numbered from 0 on", "river 9 0;owner 1 0;owner 9 0;thing 0 0 9 0;thing 1 0 9 0;thing 1 0 9 0;thing 1 0 9 0;thing 1 1 0 0;thing 1 1 0 0;"
            + "bound 0 1 9;bound 1 2 8;bound 4 5 9;bound 1 3 2;bound 2 3 7;bound 0 2 9;rapid 1 3");
        rig.due("0 lands, 4 and 5 sink, a rope breaks", rig.raft.mile(), 2);
        rig.due("ropes", rig.raft.count(4), 2);
        rig.due("rope 0", rig.raft.rope(0, 2), 8);
        rig.due("rope 1", rig.raft.rope(1, 2), 7);
        rig.due("rope 2", rig.raft.rope(2, 2), -1);
        rig.raft.cut(0);
        rig.due("rope 0", rig.raft.rope(0, 2), 7);
        rig.due("the next is number 1", rig.raft.bind(1, 3, 8), 1);
    }

    // ---- BIND, CUT, SAW, PUSH ----

    /** Promise 12: "the number of the ROPE; NONE, and nothing happens, without these." */
    private static void bindNothingHappens() {
        Rig rig = new Rig("bind: nothing happens without these");
        for (Twin.Ready ready : ALL) {
            for (int far : FAR) {
                Twin.nothing(rig, ready, "bind(" + far + ", 1, 1)", r -> r.bind(far, 1, 1), -1);
                Twin.nothing(rig, ready, "bind(1, " + far + ", 1)", r -> r.bind(1, far, 1), -1);
                Twin.nothing(rig, ready, "bind(0, 4, " + far + ")", r -> r.bind(0, 4, far), -1);
            }
        }
        // at mile 2 the things 0 to 4 are on the river, 5 sank, 6 was not told; 2 and 0 are not bound, store is 36
        Twin.nothing(rig, Twin.RICH, "strength 0", r -> r.bind(0, 2, 0), -1);
        Twin.nothing(rig, Twin.RICH, "strength 10", r -> r.bind(0, 2, 10), -1);
        Twin.nothing(rig, Twin.RICH, "what sank", r -> r.bind(0, 5, 1), -1);
        Twin.nothing(rig, Twin.RICH, "what sank", r -> r.bind(5, 0, 1), -1);
        Twin.nothing(rig, Twin.RICH, "not told", r -> r.bind(0, 6, 1), -1);
        Twin.nothing(rig, Twin.RICH, "not told", r -> r.bind(8, 0, 1), -1);
        for (int t = 0; t < 5; t++) {
            int thing = t;
            Twin.nothing(rig, Twin.RICH, "itself", r -> r.bind(thing, thing, 1), -1);
        }
        Twin.nothing(rig, Twin.RICH, "bound already", r -> r.bind(1, 2, 1), -1);
        Twin.nothing(rig, Twin.RICH, "bound already", r -> r.bind(2, 1, 1), -1);
        Twin.nothing(rig, Twin.LAST, "what landed", r -> r.bind(3, 0, 1), -1);
        Twin.nothing(rig, Twin.LAST, "what sank", r -> r.bind(3, 2, 1), -1);
        Twin.nothing(rig, Twin.FULL, "a 13th rope", r -> r.bind(0, 2, 1), -1);
        Twin.Ready poor = r -> {
            Rig.tell(r, "river 9 4;owner 9 0;thing 0 0 9 0;thing 0 0 9 0;thing 0 0 9 0;bound 0 1 1");
            r.river();
            r.saw(2);
        };
        for (int strength = 5; strength <= 9; strength++) {
            int s = strength;
            Twin.nothing(rig, poor, "more than there is, " + s, r -> r.bind(0, 2, s), -1);
        }
    }

    /** "with a STRENGTH (1 to 9, as much ROPE as it is ...)" */
    private static void bindAsMuchRope() {
        for (int strength = 1; strength <= 9; strength++) {
            Rig rig = Rig.on("as much rope as its strength is, " + strength, "river 9 " + (strength * 2 - 1) + ";owner 9 0;thing 0 0 0 0;thing 0 0 0 0;thing 0 0 0 0");
            rig.due("bind", rig.raft.bind(2, 0, strength), 0);
            rig.due("store", rig.raft.count(1), strength - 1);
            rig.due("strength", rig.raft.rope(0, 2), strength);
            rig.due("one too little", rig.raft.bind(0, 1, strength), -1);
            rig.due("all that is left", rig.raft.bind(0, 1, strength - 1), strength > 1 ? 1 : -1);
            rig.due("store", rig.raft.count(1), 0);
            rig.due("none is left", rig.raft.bind(1, 2, 1), -1);
        }
    }

    /** "12 ROPES at most" */
    private static void bindTwelveRopes() {
        Rig rig = Rig.on("12 ropes at most", "river 9 99;owner 9 0" + ";thing 0 0 9 0".repeat(8) + ";bound 0 1 1;bound 0 2 1");
        for (int t = 3; t < 8; t++) {
            rig.due("bind", rig.raft.bind(0, t, 1), t - 1);
        }
        rig.due("ropes", rig.raft.count(4), 7);
        for (int t = 1; t < 6; t++) {
            rig.due("bind", rig.raft.bind(t, t + 1, 1), 6 + t);
        }
        rig.due("ropes", rig.raft.count(4), 12);
        rig.due("a 13th", rig.raft.bind(6, 7, 1), -1);
        rig.due("cut one", rig.raft.cut(5), 99 - 10 + 1);
        rig.due("the twelfth again", rig.raft.bind(6, 7, 1), 11);
        rig.due("a 13th", rig.raft.bind(1, 7, 1), -1);
    }

    /** "BIND two THINGS on the river, not bound to one another" */
    private static void bindNotBoundToOneAnother() {
        Rig rig = Rig.on("not bound to one another", "river 9 99;owner 9 0;thing 0 0 9 0;thing 0 0 9 0;thing 0 0 9 0;bound 0 1 1;bound 1 2 1");
        rig.due("bound", rig.raft.bind(0, 1, 1), -1);
        rig.due("bound", rig.raft.bind(1, 0, 1), -1);
        rig.due("in one piece, but not bound to one another", rig.raft.bind(2, 0, 1), 2);
        rig.due("bound now", rig.raft.bind(0, 2, 1), -1);
        rig.raft.cut(0);
        rig.due("cut, and bound anew", rig.raft.bind(0, 1, 9), 2);
        rig.raft.saw(0);
        rig.due("sawn off, and bound anew", rig.raft.bind(0, 1, 9), 1);
    }

    /** Promise 13: "ROPE in store then; NONE, and nothing happens, without that ROPE." */
    private static void cutNothingHappens() {
        Rig rig = new Rig("cut: nothing happens without that rope");
        for (Twin.Ready ready : ALL) {
            PartyRaft one = new PartyRaft();
            ready.make(one);
            int ropes = one.count(4);
            Twin.nothing(rig, ready, "cut(" + ropes + ")", r -> r.cut(ropes), -1);
            for (int far : FAR) {
                Twin.nothing(rig, ready, "cut(" + far + ")", r -> r.cut(far), -1);
            }
            if (ropes > 0) {
                rig.due("the last", one.cut(ropes - 1) >= 0 ? 1 : 0, 1);
                rig.due("it is gone", one.cut(ropes - 1), -1);
            }
        }
    }

    /** "CUT a ROPE (its STRENGTH is in store again)" */
    private static void cutInStoreAgain() {
        Rig rig = Rig.on("its strength is in store again", "river 9 99;owner 9 0;thing 0 0 0 0;thing 0 0 0 0;thing 0 0 0 0;bound 0 1 9;bound 1 2 1;bound 0 2 5");
        rig.due("the last rope", rig.raft.cut(2), 104);
        rig.due("the first", rig.raft.cut(0), 113);
        rig.due("the only one", rig.raft.cut(0), 114);
        rig.due("none", rig.raft.cut(0), -1);
        rig.due("more than 99 can be in store", rig.raft.count(1), 114);
        rig.due("and be used", rig.raft.bind(0, 1, 9), 0);
        rig.due("store", rig.raft.count(1), 105);
        rig = Rig.on("an empty store", "river 9 0;owner 9 0;thing 0 0 0 0;thing 0 0 0 0;bound 0 1 1");
        rig.due("cut", rig.raft.cut(0), 1);
    }

    /** Promise 14: "how many ROPES are gone; NONE, and nothing happens, without a THING on the river." */
    private static void sawNothingHappens() {
        Rig rig = new Rig("saw: nothing happens without a thing on the river");
        for (Twin.Ready ready : ALL) {
            PartyRaft one = new PartyRaft();
            ready.make(one);
            int things = one.count(3);
            Twin.nothing(rig, ready, "saw(" + things + ")", r -> r.saw(things), -1);
            for (int far : FAR) {
                Twin.nothing(rig, ready, "saw(" + far + ")", r -> r.saw(far), -1);
            }
        }
        Twin.nothing(rig, Twin.RICH, "what sank", r -> r.saw(5), -1);
        Twin.nothing(rig, Twin.LAST, "what landed", r -> r.saw(0), -1);
        Twin.nothing(rig, Twin.LAST, "what sank", r -> r.saw(2), -1);
    }

    /** "SAW a THING off (all of its ROPES are gone; thieves)" */
    private static void sawAllOfItsRopes() {
        Rig rig = Rig.on("all of its ropes are gone", "river 9 7;owner 9 0" + ";thing 0 0 9 0".repeat(8)
            + ";bound 7 0 1;bound 1 7 2;bound 0 1 9;bound 2 7 3;bound 7 3 4;bound 4 7 5;bound 7 5 6;bound 6 7 7;bound 2 3 8");
        rig.due("seven", rig.raft.saw(7), 7);
        rig.due("not in store", rig.raft.count(1), 7);
        rig.due("those of others stay", rig.raft.rope(0, 2), 9);
        rig.due("those of others stay", rig.raft.rope(1, 2), 8);
        rig.due("no more", rig.raft.count(4), 2);
        rig.due("none are gone", rig.raft.saw(7), 0);
        rig.due("an act, too", rig.raft.count(11), 2);
        rig.due("one", rig.raft.saw(0), 1);
    }

    /** Promise 15: "the OWNER it had; NONE, and nothing happens, without these (on the river, another OWNER)." */
    private static void pushNothingHappens() {
        Rig rig = new Rig("push: nothing happens without these");
        for (Twin.Ready ready : ALL) {
            PartyRaft one = new PartyRaft();
            ready.make(one);
            int things = one.count(3);
            int owners = one.count(2);
            Twin.nothing(rig, ready, "push(" + things + ", 0)", r -> r.push(things, 0), -1);
            Twin.nothing(rig, ready, "push(3, " + owners + ")", r -> r.push(3, owners), -1);
            for (int far : FAR) {
                Twin.nothing(rig, ready, "push(" + far + ", 0)", r -> r.push(far, 0), -1);
                Twin.nothing(rig, ready, "push(3, " + far + ")", r -> r.push(3, far), -1);
            }
            for (int t = 0; t < things; t++) {
                int thing = t;
                Twin.nothing(rig, ready, "to whom it is", r -> r.push(thing, r.thing(thing, 0)), -1);
            }
        }
        Twin.nothing(rig, Twin.RICH, "what sank", r -> r.push(5, 0), -1);
        Twin.nothing(rig, Twin.LAST, "what landed", r -> r.push(0, 1), -1);
        Twin.nothing(rig, Twin.LAST, "what sank", r -> r.push(2, 1), -1);
    }

    /** "PUSH a THING to another OWNER (a gift, on the river)" */
    private static void pushAnotherOwner() {
        Rig rig = Rig.on("to another owner", "river 9 7;owner 9 0;owner 8 0;owner 7 0;owner 6 0;owner 5 0;owner 4 1" + ";thing 0 0 9 0".repeat(8));
        rig.due("to the last owner", rig.raft.push(7, 5), 0);
        rig.due("to the first", rig.raft.push(7, 0), 5);
        rig.due("the last to the last", rig.raft.push(7, 5), 0);
        rig.due("again", rig.raft.push(7, 5), -1);
        rig.due("owner", rig.raft.thing(7, 0), 5);
        rig.due("who rides it now", rig.raft.owner(5, 3), 7);
        rig.due("margin", rig.raft.margin(7), 8);
        for (int i = 0; i < 4; i++) {
            rig.raft.mile();
        }
        rig.due("it lands with the new owner", rig.raft.thing(7, 4), 1);
        rig.due("the others do not", rig.raft.count(9), 127);
    }

    /** "By these nothing SINKS till the next MILE." */
    private static void nothingSinksTillTheNextMile() {
        String text = "river 9 9;owner 9 0;owner 9 3;thing 0 0 9 0;thing 0 5 0 0;thing 1 0 3 0;bound 0 1 1";
        Rig rig = Rig.on("nothing sinks till the next mile", text);
        rig.raft.cut(0);
        rig.due("cut", rig.raft.margin(1), -5);
        rig.due("on the river", rig.raft.count(9), 7);
        rig.due("mile", rig.raft.mile(), 1);
        rig = Rig.on("nothing sinks till the next mile", text);
        rig.raft.saw(0);
        rig.due("saw", rig.raft.margin(1), -5);
        rig.due("on the river", rig.raft.count(9), 7);
        rig.due("bound again in time", rig.raft.bind(0, 1, 1), 0);
        rig.due("mile", rig.raft.mile(), 0);
        rig = Rig.on("nothing sinks till the next mile", "river 9 9;owner 9 0;owner 9 9;thing 0 0 3 0;thing 1 0 9 0");
        rig.raft.push(0, 1);
        rig.due("push: owner 1 rides thing 0 of the two", rig.raft.margin(0), -6);
        rig.due("on the river", rig.raft.count(9), 3);
        rig.due("mile", rig.raft.mile(), 1);
        rig = Rig.on("nothing sinks till the next mile", "river 9 9;owner 9 0;thing 0 9 0 0;thing 0 0 3 0");
        rig.raft.bind(0, 1, 1);
        rig.due("bind", rig.raft.margin(1), -6);
        rig.due("on the river", rig.raft.count(9), 3);
        rig.due("mile", rig.raft.mile(), 2);
    }

    // ---- UNDO ----

    /** Promise 16: "how many more can be; -2, and nothing happens: none can." */
    private static void undoNoneCan() {
        Rig rig = new Rig("undo: nothing happens: none can");
        Twin.nothing(rig, Twin.NEW, "undo()", PartyRaft::undo, -2);
        for (Twin.Ready ready : new Twin.Ready[] {Twin.RICH, Twin.LAST, Twin.FULL}) {
            Twin.Ready allUndone = r -> {
                ready.make(r);
                for (int acts = r.count(11); acts > 0; acts--) {
                    rig.due("undo", r.undo(), acts - 1);
                }
            };
            Twin.nothing(rig, allUndone, "undo()", PartyRaft::undo, -2);
            Twin.nothing(rig, allUndone, "undo() twice", r -> r.undo() + r.undo(), -4);
            Twin.Ready told = r -> {
                ready.make(r);
                r.end(0);
                Rig.tell(r, "river 9 9;owner 9 0;thing 0 0 9 0");
                r.river();
            };
            Twin.nothing(rig, told, "undo() behind a new river", PartyRaft::undo, -2);
        }
    }

    /** "The last 20 ACTS can be UNDONE, the last first." */
    private static void undoTheLastTwenty() {
        for (int acts : new int[] {1, 19, 20, 21, 39, 40, 41, 60}) {
            Rig rig = Rig.on("the last 20 of " + acts, "river 99 0;owner 99 0;thing 0 0 99 1");
            for (int i = 1; i <= acts; i++) {
                rig.raft.mile();
                rig.due("acts", rig.raft.count(11), Math.min(20, i));
            }
            int can = Math.min(20, acts);
            for (int i = 1; i <= can; i++) {
                rig.due("undo", rig.raft.undo(), can - i);
                rig.due("mile", rig.raft.count(7), acts - i);
                rig.due("float", rig.raft.thing(0, 2), 99 - acts + i);
                rig.due("acts", rig.raft.count(11), can - i);
            }
            rig.due("none can", rig.raft.undo(), -2);
            rig.due("mile", rig.raft.count(7), acts - can);
            rig.raft.mile();
            rig.due("again", rig.raft.undo(), 0);
            rig.due("mile", rig.raft.count(7), acts - can);
        }
    }

    /** Each act undone: all is as ahead of it. */
    private static void undoEachAct() {
        Rig rig = new Rig("each act undone");
        Twin.nothing(rig, Twin.LAST, "saw and undo", r -> {
            r.saw(3);
            return r.undo();
        }, 2);
        Twin.nothing(rig, Twin.RICH, "mile and undo", r -> {
            r.mile();
            return r.undo();
        }, 7);
        Twin.nothing(rig, Twin.RICH, "eleven miles and as many undos", r -> {
            for (int i = 0; i < 11; i++) {
                r.mile();
            }
            int last = -9;
            for (int i = 0; i < 11; i++) {
                last = r.undo();
            }
            return last;
        }, 7);
        Twin.nothing(rig, Twin.RICH, "bind and undo", r -> {
            rig.due("bind", r.bind(0, 3, 9), 2);
            return r.undo();
        }, 7);
        Twin.nothing(rig, Twin.RICH, "cut and undo", r -> {
            r.cut(0);
            return r.undo();
        }, 7);
        Twin.nothing(rig, Twin.RICH, "saw and undo", r -> {
            rig.due("saw", r.saw(1), 1);
            return r.undo();
        }, 7);
        Twin.nothing(rig, Twin.RICH, "push and undo", r -> {
            r.push(0, 2);
            return r.undo();
        }, 7);
    }

    /** What is no act can't be undone, and stays as it is when an act is: offers, x, images, rules and the tape. */
    private static void undoOnlyActs() {
        Rig rig = Rig.on("only acts", "river 9 9;owner 9 0;thing 0 0 9 1");
        PartyRaft r = rig.raft;
        r.mile();
        r.offer(1, 9, 1);
        r.seed(8);
        r.image(0);
        rig.rule("tie 1");
        r.feed(1, 2, 3, 4, 5);
        r.end(3);
        r.ahead(3, 0);
        r.drawn(2, 2, 0);
        rig.due("acts", r.count(11), 1);
        rig.due("undo", r.undo(), 0);
        rig.due("mile", r.count(7), 0);
        rig.due("offers", r.count(10), 1);
        rig.due("x", r.count(12), 8);
        rig.due("rules", r.count(6), 1);
        rig.due("tape", r.count(13), 3);
        rig.due("image", r.back(0), 1);
        rig.due("refused acts are none", r.bind(0, 0, 1) + r.cut(0) + r.saw(1) + r.push(0, 0), -4);
        rig.due("acts", r.count(11), 1);
    }

    // ---- RUN ----

    /** Promise 17: "how many THINGS SANK; NONE, and nothing happens, without these (no RIVER)." */
    private static void runNothingHappens() {
        Rig rig = new Rig("run: nothing happens without these");
        for (Twin.Ready ready : ALL) {
            PartyRaft one = new PartyRaft();
            ready.make(one);
            int rules = one.count(6);
            int left = one.count(0) - one.count(7);
            Twin.nothing(rig, ready, "a rule that there is not", r -> r.run(rules, 1, 1), -1);
            Twin.nothing(rig, ready, "no mile", r -> r.run(0, 0, 1), -1);
            Twin.nothing(rig, ready, "one mile too many", r -> r.run(0, left + 1, 1), -1);
            Twin.nothing(rig, ready, "strength 0", r -> r.run(0, 1, 0), -1);
            Twin.nothing(rig, ready, "strength 10", r -> r.run(0, 1, 10), -1);
            for (int far : FAR) {
                Twin.nothing(rig, ready, "run(" + far + ", 1, 1)", r -> r.run(far, 1, 1), -1);
                Twin.nothing(rig, ready, "run(0, 1, " + far + ")", r -> r.run(0, 1, far), -1);
                if (far < 0 || far > 99) {
                    Twin.nothing(rig, ready, "run(0, " + far + ", 1)", r -> r.run(0, far, 1), -1);
                }
            }
        }
        Twin.Ready noRiver = r -> {
            Rig.tell(r, "tie 1");
            r.rule();
        };
        Twin.nothing(rig, noRiver, "no river", r -> r.run(0, 1, 1), -1);
    }

    /** "n MILES (1 and above, not behind the last one) with a STRENGTH (1 to 9)" */
    private static void runToTheLastMile() {
        for (int strength = 1; strength <= 9; strength += 8) {
            Rig rig = Rig.on("to the last mile", "river 99 9;owner 99 0;thing 0 0 9 0;thing 0 0 9 0");
            rig.rule("tie 1");
            rig.due("100 miles", rig.raft.run(0, 100, strength), -1);
            rig.due("one", rig.raft.run(0, 1, strength), 0);
            rig.due("mile", rig.raft.count(7), 1);
            rig.due("strength", rig.raft.rope(0, 2), strength);
            rig.due("99 miles", rig.raft.run(0, 99, strength), -1);
            rig.due("98 miles", rig.raft.run(0, 98, strength), 0);
            rig.due("mile", rig.raft.count(7), 99);
            rig.due("landed", rig.raft.ahead(0, 1), 3);
            rig.due("one more", rig.raft.run(0, 1, strength), -1);
        }
        Rig rig = Rig.on("the last of six rules", "river 9 9;owner 9 0;thing 0 0 9 0;thing 0 0 9 0;thing 0 1 0 0");
        for (int i = 0; i < 6; i++) {
            rig.rule("tie " + i / 5);
        }
        rig.due("the last but one", rig.raft.run(4, 1, 1), 1);
        rig.due("ropes", rig.raft.count(4), 0);
        rig.due("the last", rig.raft.run(5, 1, 1), 0);
        rig.due("ropes", rig.raft.count(4), 1);
        rig.due("a seventh", rig.raft.run(6, 1, 1), -1);
    }

    /** "ahead of each (if there is so much ROPE ...)" */
    private static void runIfThereIsSoMuchRope() {
        for (int store = 0; store <= 9; store++) {
            for (int strength = 1; strength <= 9; strength++) {
                Rig rig = Rig.on("if there is so much rope", "river 9 " + store + ";owner 9 0;thing 0 0 9 0;thing 0 0 9 0");
                rig.rule("tie 1");
                rig.due("run", rig.raft.run(0, 1, strength), 0);
                rig.due(strength + " of " + store, rig.raft.count(4), strength <= store ? 1 : 0);
                rig.due("store", rig.raft.count(1), strength <= store ? store - strength : store);
            }
        }
        // rope that comes into store at a landing is there for the next mile
        Rig rig = Rig.on("rope of a landing", "river 9 0;owner 1 0;owner 9 0;thing 0 0 9 0;thing 1 0 9 0;thing 1 0 9 0;bound 0 1 4");
        rig.rule("tie 1");
        rig.raft.run(0, 1, 4);
        rig.due("not yet", rig.raft.count(4), 0);
        rig.raft.run(0, 1, 4);
        rig.due("now", rig.raft.count(4), 1);
    }

    /** "and fewer than 12 ROPES" */
    private static void runFewerThanTwelveRopes() {
        Rig rig = new Rig("fewer than 12 ropes");
        Twin.FULL.make(rig.raft);
        rig.due("run", rig.raft.run(0, 1, 1), 0);
        rig.due("ropes", rig.raft.count(4), 12);
        rig.due("store", rig.raft.count(1), 99);
        rig.raft.cut(11);
        rig.due("run", rig.raft.run(0, 3, 1), 0);
        rig.due("ropes", rig.raft.count(4), 12);
        rig.due("one was bound", rig.raft.count(1), 99 + 4 - 1);
    }

    /** "those are bound for which the SUM ... is greatest, if it is above 0" */
    private static void runIfItIsAboveZero() {
        String river = "river 9 9;owner 9 0;thing 0 0 9 0;thing 0 0 9 0;thing 0 0 9 0";
        String[] sums = {"0", "1", "0-1", "1-1", "one-1", "other-2", "other-1", "1-other", "2-other", "65536*65536*65536*32768", "65536*65536*65536*32768-1"};
        int[] bound = {0, 1, 0, 0, 0, 0, 1, 0, 1, 0, 1};
        for (int i = 0; i < sums.length; i++) {
            Rig rig = Rig.on("if it is above 0", river);
            rig.rule("tie " + sums[i]);
            rig.raft.run(0, 1, 1);
            rig.due(sums[i], rig.raft.count(4), bound[i]);
            rig.due("store", rig.raft.count(1), 9 - bound[i]);
        }
    }

    /** "of several the first (by the lesser, then the other one)" */
    private static void runOfSeveralTheFirst() {
        Rig rig = Rig.on("of several the first", "river 30 99;owner 30 0" + ";thing 0 0 9 0".repeat(5));
        rig.rule("tie 1");
        rig.due("run", rig.raft.run(0, 10, 1), 0);
        int rope = 0;
        for (int a = 0; a < 5; a++) {
            for (int b = a + 1; b < 5; b++) {
                rig.due("one", rig.raft.rope(rope, 0), a);
                rig.due("other", rig.raft.rope(rope, 1), b);
                rope++;
            }
        }
        rig.due("all are bound to one another", rig.raft.run(0, 5, 1), 0);
        rig.due("ropes", rig.raft.count(4), 10);
        rig = Rig.on("of several the first", "river 30 99;owner 30 0" + ";thing 0 0 9 0".repeat(4));
        rig.rule("tie 9-one-other");
        rig.rule("tie one+other");
        rig.raft.run(1, 1, 1);
        rig.due("2 and 3 are worth most", rig.raft.rope(0, 0) * 10 + rig.raft.rope(0, 1), 23);
        rig.raft.run(0, 3, 1);
        rig.due("0 and 1", rig.raft.rope(1, 0) * 10 + rig.raft.rope(1, 1), 1);
        rig.due("0 and 2", rig.raft.rope(2, 0) * 10 + rig.raft.rope(2, 1), 2);
        rig.due("0 and 3 as 1 and 2", rig.raft.rope(3, 0) * 10 + rig.raft.rope(3, 1), 3);
        rig = Rig.on("two things at least", "river 30 99;owner 30 0;thing 0 0 9 0");
        rig.rule("tie 1");
        rig.due("one thing", rig.raft.run(0, 5, 1), 0);
        rig.due("ropes", rig.raft.count(4), 0);
        rig.river("river 30 99");
        rig.due("no thing", rig.raft.run(0, 30, 1), 0);
        rig.due("ropes", rig.raft.count(4), 0);
    }

    /** "the SUM of the first CLAUSE without a TEST, or whose TEST holds (0 without)" */
    private static void runFirstClauseThatHolds() {
        String[] rules = {"tie 1 if 1=2", "tie 1 if 1=2;tie 2 if 1=2", "tie 1 if 1=2;tie 0;tie 9", "tie 0 if 1=1;tie 9", "tie 1 if 1=1", "tie 0 if 1=2;tie 9",
            "tie 0 if one=1;tie 0 if one=2;tie 0 if one=3;tie 0 if one=4;tie 0 if one=5;tie 0 if one=6;tie 0 if one=7;tie 0 if one=8;tie 0 if one=9;tie 0 if 1=2;tie 0 if 1=2;tie 9"};
        int[] bound = {0, 0, 0, 0, 1, 1, 1};
        for (int i = 0; i < rules.length; i++) {
            Rig rig = Rig.on("the first clause that holds", "river 9 9;owner 9 0;thing 0 0 9 0;thing 0 0 9 0");
            rig.due("rule", rig.rule(rules[i]), 0);
            rig.raft.run(0, 1, 1);
            rig.due(rules[i], rig.raft.count(4), bound[i]);
        }
        // a short rule behind longer ones, one of them with a fault: of those nothing is left in it
        for (String longer : new String[] {"tie 0*0*0*0*0*0*0*0", "tie 0+0+0+0+0+0+0+0", "tie 0 if not not not not not 1=2 and 1=2;tie 0", "tie 0 if 1=2 or 1=2 or 1=2;tie 0;tie"}) {
            Rig rig = Rig.on("behind " + longer, "river 9 9;owner 9 0;thing 0 0 9 0;thing 0 0 9 0;thing 0 0 9 0");
            rig.rule(longer);
            int rule = rig.rule("tie 1 if 1=1");
            rig.raft.run(rule, 1, 1);
            rig.due("the test holds", rig.raft.count(4), 1);
            rule = rig.rule("tie 1 if 1=2");
            rig.raft.run(rule, 1, 1);
            rig.due("the test does not hold", rig.raft.count(4), 1);
            rule = rig.rule("tie 2*one+other");
            rig.raft.run(rule, 1, 1);
            rig.due("1 and 2", rig.raft.rope(1, 0), 1);
        }
    }

    /** "(These can't be UNDONE: nothing that was done ahead of them can, either.)" */
    private static void runNothingCanBeUndone() {
        Rig rig = new Rig("nothing can be undone behind a run");
        for (Twin.Ready ready : new Twin.Ready[] {Twin.RICH, Twin.FULL}) {
            PartyRaft r = new PartyRaft();
            ready.make(r);
            rig.due("run", r.run(0, 1, 1), 0);
            rig.due("acts", r.count(11), 0);
            rig.due("undo", r.undo(), -2);
            int mile = r.count(7);
            r.mile();
            r.saw(0);
            rig.due("what was done behind it can", r.undo(), 1);
            rig.due("what was done behind it can", r.undo(), 0);
            rig.due("undo", r.undo(), -2);
            rig.due("mile", r.count(7), mile);
            rig.due("an image has what could be undone", r.back(0) >= 0 && r.count(11) > 0 ? 1 : 0, 1);
        }
    }

    /** Whether a fact holds of two things: float 7 and 10, weight 3 and 4, store 6, mile 0. */
    private static void holds(String fact, boolean want) {
        Rig rig = Rig.on(fact, "river 9 6;owner 8 0;owner 5 0;thing 0 3 7 1;thing 1 4 10 2");
        rig.due("the rule", rig.rule("tie 1 if " + fact), 0);
        rig.raft.run(0, 1, 1);
        rig.due("holds", rig.raft.count(4), want ? 1 : 0);
    }

    /** "/ is towards 0, % its rest, both 0 by 0; all goes round in 64 bits." */
    private static void runArithmetic() {
        holds("7/0=0", true);
        holds("7%0=0", true);
        holds("0/0=0", true);
        holds("0%0=0", true);
        holds("7/mile=0", true);
        holds("99999/mile*5+3=3", true);
        holds("7/2=3", true);
        holds("7%2=1", true);
        holds("6/7=0", true);
        holds("6%7=6", true);
        // 2 to the 63rd is the least of all; with 1 less it is the greatest
        String least = "65536*65536*65536*32768";
        holds(least + "<0", true);
        holds(least + "-1>0", true);
        holds(least + "-1<" + least, false);
        holds(least + "+" + least + "=0", true);
        holds("0-" + least + "<0", true);
        holds(least + "*2=0", true);
        holds(least + "/1<0", true);
        holds(least + "%1=0", true);
        // 2 to the 63rd with a rest: 9223372036854775808 = 3 * 3074457345618258602 + 2, and 7 * 1317624576693539401 + 1
        holds(least + "/3*3+2=" + least + "+2+2", true);
        holds(least + "%3=0-2", true);
        holds(least + "%7=0-1", true);
        holds(least + "/3<0", true);
        holds("65536*65536*65536*65536=0", true);
        holds("65536*65536*65536*65535<0", true);
        holds("65536*65536*65536*32767>0", true);
        // a sum that is not in a term has no bracket: 0 - 7 / 2 is 0 less 3
        holds("0-7/2=0-3", true);
    }

    /** The signs at their edges: below, at, and above. */
    private static void runTests() {
        String[] signs = {"<", "<=", "=", ">=", ">"};
        boolean[][] want = {{true, false, false}, {true, true, false}, {false, true, false}, {false, true, true}, {false, false, true}};
        for (int s = 0; s < signs.length; s++) {
            for (int d = 0; d < 3; d++) {
                holds(16 + d + signs[s] + "float", want[s][d]);
                holds("0-" + (18 - d) + signs[s] + "0-float", want[s][d]);
            }
        }
        holds("65536*65536*65536*32768<65536*65536*65536*32768-1", true);
    }

    /** Whether a rule with a test binds two things that are told for it alone. */
    private static void binds(String river, String test, int one, int other) {
        Rig rig = Rig.on(test, river);
        rig.due("the rule", rig.rule("tie 1 if " + test), 0);
        int ropes = rig.raft.count(4);
        rig.raft.run(0, 1, 1);
        rig.due("one", rig.raft.rope(ropes, 0), one);
        rig.due("other", rig.raft.rope(ropes, 1), other);
    }

    /** "WORDS ... of two THINGS": each at its least, or where it is one or the other. */
    private static void runWords() {
        String river = "river 9 99;owner 9 0;owner 8 0;owner 7 0;thing 0 1 90 0;thing 0 2 91 1;thing 1 4 92 3;thing 2 8 93 9;thing 2 0 99 0;bound 0 3 1;bound 1 3 1;bound 4 3 1";
        binds(river, "same=1", 0, 1);
        binds(river, "same=0", 0, 2);
        binds(river, "same<1", 0, 2);
        binds(river, "apart=1", 0, 2);
        binds(river, "apart>0 and one>0", 1, 2);
        binds(river, "apart=0", 0, 1);
        binds(river, "apart<1 and one=1", 1, 4);
        binds(river, "ropes=3", 2, 3);
        binds(river, "ropes=2", 0, 1);
        binds(river, "ropes=1", 0, 2);
        binds(river, "ropes=0", -1, -1);
        binds(river, "landing=7", 0, 4);
        binds(river, "landing=8", 0, 2);
        binds(river, "landing=9", 0, 1);
        binds(river, "weight=12", 2, 3);
        binds(river, "weight=0", -1, -1);
        binds(river, "weight=1", 0, 4);
        binds(river, "soak=12", 2, 3);
        binds(river, "soak=0", 0, 4);
        binds(river, "float=185", 2, 3);
        binds(river, "left=5 and store=99 and mile=0", 0, 1);
        binds(river, "one=2 and other=4", 2, 4);
        binds(river, "one>=other", -1, -1);
        // at mile 1 thing 1 has landed, its rope is in store again, and thing 3 sank
        Rig rig = Rig.on("as they are now", "river 9 99;owner 9 0;owner 1 0;owner 9 0;thing 0 0 9 2;thing 1 0 9 0;thing 2 0 9 9;thing 2 5 0 0;bound 0 1 9");
        rig.raft.mile();
        rig.raft.push(2, 0);
        rig.due("the rule", rig.rule("tie 1 if float=7 and left=2 and store=108 and mile=1 and same=1 and apart=1 and ropes=0 and one=0 and other=2"), 0);
        rig.raft.run(0, 1, 9);
        rig.due("bound", rig.raft.count(4), 1);
        rig.due("store", rig.raft.count(1), 99);
    }

    /** "TEST: PART { or PART }. PART: FACT { and FACT }. FACT: not FACT | [ TEST ]" */
    private static void runNotAndOr() {
        String[] facts = {"1=2", "1=1"};
        for (int a = 0; a < 2; a++) {
            holds("not " + facts[a], a == 0);
            holds("not not " + facts[a], a == 1);
            for (int b = 0; b < 2; b++) {
                for (int c = 0; c < 2; c++) {
                    String fa = facts[a];
                    String fb = facts[b];
                    String fc = facts[c];
                    holds(fa + " and " + fb + " or " + fc, a == 1 && b == 1 || c == 1);
                    holds(fa + " or " + fb + " and " + fc, a == 1 || b == 1 && c == 1);
                    holds("[" + fa + " or " + fb + "] and " + fc, (a == 1 || b == 1) && c == 1);
                    holds(fa + " or " + fb + " or " + fc, a == 1 || b == 1 || c == 1);
                    holds(fa + " and " + fb + " and " + fc, a == 1 && b == 1 && c == 1);
                    holds("not " + fa + " and " + fb + " or not " + fc, a == 0 && b == 1 || c == 0);
                    holds("not [" + fa + " and " + fb + "] and " + fc, !(a == 1 && b == 1) && c == 1);
                    // not holds less far than and: what follows it is not turned round
                    holds("not " + fa + " or " + fb + " and not [" + fc + "]", a == 0 || b == 1 && c == 0);
                }
            }
        }
    }
}
