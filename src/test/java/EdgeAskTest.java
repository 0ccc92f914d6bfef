/**
 * The document's sentences on what is too small or too large, empty or full, or refused, each with a
 * test of its own: promises 18 to 28, and part III. of the terms but for draws and images.
 */
public final class EdgeAskTest {
    private static final int[] FAR = {Integer.MIN_VALUE, -10000, -3, -2, 31, 32, 33, 201, 65536, Integer.MAX_VALUE};
    private static final Twin.Ready[] ALL = {Twin.NEW, Twin.RICH, Twin.LAST, Twin.FULL};
    private static final Twin.Ready[] RIVERS = {Twin.RICH, Twin.LAST, Twin.FULL};

    public static void main(String[] args) {
        nothingChanges();
        aheadWithoutThese();
        aheadThoseThatAreLeft();
        sinksWithoutThatThing();
        sinksOrNot();
        bearersWithoutThese();
        bearersFewestThenLeast();
        bearersAsMuchOrMore();
        planForOthers();
        planSevenThings();
        planThereIsNone();
        planAsMuchOrMore();
        planLandLater();
        sawnWithoutThese();
        sawnThereIsNone();
        sawnFewestThenLeast();
        sawnAllSets();
        locksWithoutThese();
        locksOneWeighsTooMuch();
        locksAtMostRoom();
        locksTheFirstWay();
        deltaForOthers();
        deltaFifthPart();
        deltaOneOrNone();
        weakForOthers();
        weakFallsApart();
        offerNothingHappens();
        offersNoneThen();
        offersSix();
        takeWithoutThese();
        takeNotBelowZero();
        takeHundredAtMost();
        takeOfSeveral();
        gameWithoutThese();
        gameAsMuchOrMore();
        gameNoneLeft();
        Rig.close();
    }

    /** All calls of a kind of question, by two numbers. */
    private interface Ask {
        int of(PartyRaft r, int a, int b);
    }

    /** A question that is refused answers the same for these numbers, and changes nothing. */
    private static void refused(Rig rig, Twin.Ready ready, String name, Ask ask, int want, int[]... pairs) {
        for (int[] pair : pairs) {
            Twin.nothing(rig, ready, name + "(" + pair[0] + ", " + pair[1] + ")", r -> ask.of(r, pair[0], pair[1]), want);
        }
    }

    private static void refusedFar(Rig rig, Twin.Ready ready, String name, Ask ask, int want, int well) {
        for (int far : FAR) {
            refused(rig, ready, name, ask, want, new int[] {far, 0}, new int[] {well, far});
        }
    }

    private static void rowIs(Rig rig, int rows, int... first) {
        rig.due("rows", rig.raft.plan(-1), rows);
        for (int i = 0; i < 7; i++) {
            rig.due("place " + i, rig.raft.plan(i), i < first.length ? first[i] : -2);
        }
    }

    /** "(By what is asked nothing changes.)" */
    private static void nothingChanges() {
        Rig rig = new Rig("by what is asked nothing changes");
        for (Twin.Ready ready : RIVERS) {
            PartyRaft r = new PartyRaft();
            ready.make(r);
            int left = r.count(0) - r.count(7);
            int set = r.count(9);
            int least = set & -set;
            Twin.Call[] calls = {
                s -> s.ahead(left, 0), s -> s.ahead(0, 3), s -> s.sinks(0), s -> s.sinks(3), s -> s.bearers(least, 0), s -> s.bearers(set, 1),
                s -> s.plan(-1), s -> s.plan(0), s -> s.plan(6), s -> s.sawn(least, 0), s -> s.sawn(set, 2), s -> s.locks(200, 0), s -> s.locks(1, 1),
                s -> s.locks(9, 8), s -> s.delta(0), s -> s.delta(1), s -> s.weak(0), s -> s.weak(1), s -> s.take(3, 0), s -> s.take(3, 1),
                s -> s.game(3, 0), s -> s.game(3, 1), s -> s.drawn(20, Math.min(60, left), 0), s -> s.drawn(1, 1, 2)};
            for (int i = 0; i < calls.length; i++) {
                Twin.nothing(rig, ready, "question " + i, calls[i], calls[i].on(r));
            }
        }
    }

    // ---- Promises 18 and 19 ----

    /** "each as bits; NONE without these." */
    private static void aheadWithoutThese() {
        Rig rig = new Rig("ahead: NONE without these");
        refused(rig, Twin.NEW, "ahead", PartyRaft::ahead, -1, new int[] {0, 0}, new int[] {0, 3}, new int[] {1, 0});
        for (Twin.Ready ready : ALL) {
            PartyRaft r = new PartyRaft();
            ready.make(r);
            int left = r.count(0) - r.count(7);
            refused(rig, ready, "ahead", PartyRaft::ahead, -1, new int[] {-1, 0}, new int[] {left + 1, 0}, new int[] {0, -1}, new int[] {0, 4}, new int[] {left, 4});
            for (int far : FAR) {
                refused(rig, ready, "ahead", PartyRaft::ahead, -1, new int[] {0, far});
                if (far < 0 || far > 99) {
                    refused(rig, ready, "ahead", PartyRaft::ahead, -1, new int[] {far, 0});
                }
            }
        }
    }

    /** "AHEAD n MILES (those that are left at most)" */
    private static void aheadThoseThatAreLeft() {
        for (int miles : new int[] {2, 99}) {
            Rig rig = Rig.on("those that are left at most, of " + miles, "river " + miles + " 9;owner " + miles + " 0;owner 1 5;thing 0 0 9 0;thing 1 0 4 0;thing 0 1 9 0");
            // owner 1 lands with thing 1 at mile 1
            for (int gone = 0; gone <= Math.min(miles, 30); gone++) {
                rig.due("none", rig.raft.ahead(0, 0), gone == 0 ? 7 : gone == miles ? 0 : 5);
                rig.due("all that are left", rig.raft.ahead(miles - gone, 1), 7);
                rig.due("one fewer", rig.raft.ahead(miles - gone - 1, 1), gone == miles ? -1 : 2);
                rig.due("one more", rig.raft.ahead(miles - gone + 1, 1), -1);
                rig.raft.mile();
            }
        }
        Rig rig = Rig.on("as bits", "river 9 9;owner 9 1;owner 9 1;owner 9 1;owner 9 1;owner 9 1;owner 9 1;thing 0 0 0 0;thing 1 0 0 0;thing 2 0 0 0;thing 3 0 0 0;thing 4 0 0 0;thing 5 0 0 0;"
            + "thing 5 0 0 0;thing 5 0 0 0");
        rig.due("all eight", rig.raft.ahead(0, 0), 255);
        rig.due("none is wet yet", rig.raft.ahead(0, 3), 0);
        rig.due("all six are wet", rig.raft.ahead(1, 3), 63);
        rig.due("six sank", rig.raft.ahead(1, 2), 63);
        rig.due("two are left", rig.raft.ahead(9, 0), 192);
    }

    /** "NONE without that THING" */
    private static void sinksWithoutThatThing() {
        Rig rig = new Rig("sinks: NONE without that thing");
        for (Twin.Ready ready : ALL) {
            PartyRaft r = new PartyRaft();
            ready.make(r);
            int things = r.count(3);
            Twin.nothing(rig, ready, "sinks(-1)", s -> s.sinks(-1), -1);
            Twin.nothing(rig, ready, "sinks(" + things + ")", s -> s.sinks(things), -1);
            for (int far : FAR) {
                Twin.nothing(rig, ready, "sinks(" + far + ")", s -> s.sinks(far), -1);
            }
        }
        rig = Rig.on("sinks: the last thing", "river 9 9;owner 9 0" + ";thing 0 0 0 0".repeat(7) + ";thing 0 1 0 0");
        rig.due("the eighth", rig.raft.sinks(7), 1);
    }

    /** "SINKS (of one that is SUNK, too); -2: it does not" */
    private static void sinksOrNot() {
        Rig rig = Rig.on("sinks or not", "river 4 9;owner 4 0;owner 2 0;owner 2 0;thing 0 5 8 1;thing 0 5 9 1;thing 1 0 9 0;thing 0 5 5 0;thing 0 1 0 0;thing 2 5 6 1");
        // 0 has 8, 7, 6, 5, 4: it would sink at mile 4, but lands there; so does 1; 5 lands at mile 2 with 4
        int[] want = {-2, -2, -2, -2, 1, -2};
        for (int mile = 0; mile <= 4; mile++) {
            for (int t = 0; t < want.length; t++) {
                rig.due("sinks(" + t + ") at mile " + mile, rig.raft.sinks(t), want[t]);
            }
            rig.raft.mile();
        }
        rig = Rig.on("sinks at the last mile", "river 4 9;owner 1 0;owner 4 0;thing 1 5 8 1;thing 1 5 9 1;thing 0 0 9 0");
        // given to owner 0, who has landed, so that they do not land at mile 4
        rig.raft.mile();
        rig.raft.push(0, 0);
        rig.raft.push(1, 0);
        rig.due("at the last mile", rig.raft.sinks(0), 4);
        rig.due("it would at the next", rig.raft.sinks(1), -2);
        for (int i = 0; i < 3; i++) {
            rig.raft.mile();
        }
        rig.due("that is sunk, too", rig.raft.sinks(0), 4);
        rig.due("afloat at the last mile", rig.raft.sinks(1), -2);
        rig.raft.undo();
        rig.due("undone: it sinks again", rig.raft.sinks(0), 4);
        rig.due("on the river", rig.raft.thing(0, 4), 0);
        rig = Rig.on("sunk, and never asked of before", "river 9 9;owner 9 0;thing 0 5 6 1;thing 0 9 0 0");
        rig.raft.mile();
        rig.raft.mile();
        rig.raft.image(0);
        rig.due("at mile 2", rig.raft.sinks(0), 2);
        rig.due("at mile 1", rig.raft.sinks(1), 1);
        rig.river("river 9 9;owner 9 0;thing 0 0 0 0;thing 0 0 0 0");
        rig.due("of another river", rig.raft.sinks(0), -2);
        rig.raft.back(0);
        rig.due("gone back to", rig.raft.sinks(0), 2);
    }

    // ---- Promise 20 ----

    /** "NONE without these." */
    private static void bearersWithoutThese() {
        Rig rig = new Rig("bearers: NONE without these");
        refused(rig, Twin.NEW, "bearers", PartyRaft::bearers, -1, new int[] {0, 0}, new int[] {0, 1}, new int[] {1, 0});
        for (Twin.Ready ready : ALL) {
            refused(rig, ready, "bearers", PartyRaft::bearers, -1, new int[] {0, -1}, new int[] {0, 2}, new int[] {256, 0}, new int[] {-1, 0}, new int[] {1 << 31, 1}, new int[] {1 << 30, 1});
            refusedFarWhat(rig, ready, "bearers", PartyRaft::bearers);
        }
        // of RICH 5 sank, 6 and 7 were not told; of LAST only 3 is on the river
        refused(rig, Twin.RICH, "bearers", PartyRaft::bearers, -1, new int[] {32, 0}, new int[] {64, 1}, new int[] {128, 0}, new int[] {33, 1}, new int[] {63, 0});
        refused(rig, Twin.LAST, "bearers", PartyRaft::bearers, -1, new int[] {1, 0}, new int[] {4, 1}, new int[] {9, 0}, new int[] {12, 0});
    }

    private static void refusedFarWhat(Rig rig, Twin.Ready ready, String name, Ask ask) {
        for (int far : FAR) {
            refused(rig, ready, name, ask, -1, new int[] {0, far});
        }
    }

    private static void bears(Rig rig, int things, int set) {
        rig.due("bearers(" + things + ", 0)", rig.raft.bearers(things, 0), set < 0 ? set : Integer.bitCount(set));
        rig.due("bearers(" + things + ", 1)", rig.raft.bearers(things, 1), set);
    }

    /** "the fewest others on the river ...; of several sets the least as bits"; "-2: there are none" */
    private static void bearersFewestThenLeast() {
        Rig rig = Rig.on("the fewest, then the least as bits", "river 9 9;owner 9 20;thing 0 0 3 0;thing 0 0 3 0;thing 0 9 0 0;thing 0 0 3 0;thing 0 0 9 0;thing 0 0 9 0");
        bears(rig, 4, 16);
        bears(rig, 0, 0);
        bears(rig, 4 + 1, 16);
        bears(rig, 4 + 16, 0);
        bears(rig, 63, 0);
        rig = Rig.on("the fewest, then the least as bits", "river 9 9;owner 9 20;thing 0 0 3 0;thing 0 0 3 0;thing 0 9 0 0;thing 0 0 3 0;thing 0 0 6 0");
        // two of three threes with the six, or all three: with one of them it is 9
        bears(rig, 4, 1 + 16);
        bears(rig, 4 + 16, 1);
        bears(rig, 4 + 1 + 2, 8);
        rig = Rig.on("there are none", "river 9 9;owner 9 0;thing 0 9 0 0;thing 0 0 4 0;thing 0 0 4 0");
        bears(rig, 1, -2);
        bears(rig, 7, -2);
        bears(rig, 6, 0);
        rig = Rig.on("all others are needed", "river 9 9;owner 9 0;thing 0 50 0 0" + ";thing 0 0 7 0".repeat(6) + ";thing 0 0 8 0");
        bears(rig, 1, 254);
        // what is not on the river bears nothing
        rig = Rig.on("on the river", "river 9 9;owner 1 0;owner 9 0;thing 1 9 9 9;thing 0 0 99 0;thing 1 0 99 0;bound 0 2 1");
        bears(rig, 1, 0);
        rig.raft.mile();
        bears(rig, 1, 4);
        bears(rig, 2, -1);
    }

    /** "so that all these together have FLOAT as much as WEIGHT, or more (OWNERS not asked)" */
    private static void bearersAsMuchOrMore() {
        for (int floats = 8; floats <= 10; floats++) {
            Rig rig = Rig.on("as much as weight, or more", "river 9 9;owner 9 20;thing 0 9 0 0;thing 0 0 " + floats + " 0");
            bears(rig, 1, floats >= 9 ? 2 : -2);
            bears(rig, 3, floats >= 9 ? 0 : -2);
        }
    }

    // ---- Promise 21 ----

    /** "-4 for others, or without a RIVER." */
    private static void planForOthers() {
        Rig rig = new Rig("plan: -4 for others, or without a river");
        for (int what = -1; what <= 6; what++) {
            int w = what;
            Twin.nothing(rig, Twin.NEW, "plan(" + w + ")", r -> r.plan(w), -4);
        }
        for (Twin.Ready ready : ALL) {
            Twin.nothing(rig, ready, "plan(-2)", r -> r.plan(-2), -4);
            Twin.nothing(rig, ready, "plan(7)", r -> r.plan(7), -4);
            for (int far : FAR) {
                Twin.nothing(rig, ready, "plan(" + far + ")", r -> r.plan(far), -4);
            }
        }
    }

    /** "(7 THINGS on the river at most)"; "-3: more than 7 THINGS" */
    private static void planSevenThings() {
        Rig rig = new Rig("plan: seven things at most");
        for (int what = -1; what <= 6; what++) {
            int w = what;
            Twin.nothing(rig, Twin.FULL, "plan(" + w + ") of eight", r -> r.plan(w), -3);
        }
        rig = Rig.on("plan: seven things at most", "river 9 9;owner 9 0" + ";thing 0 0 9 0".repeat(6));
        rowIs(rig, 720, 0, 1, 2, 3, 4, 5);
        rig = Rig.on("plan: seven things at most", "river 9 9;owner 9 0" + ";thing 0 0 9 0".repeat(7));
        rowIs(rig, 5040, 0, 1, 2, 3, 4, 5, 6);
        rig = Rig.on("plan: seven on the river", "river 9 9;owner 9 0;thing 0 1 0 0" + ";thing 0 0 9 0".repeat(7));
        rig.due("eight", rig.raft.plan(-1), -3);
        rig.raft.mile();
        rowIs(rig, 5040, 1, 2, 3, 4, 5, 6, 7);
        rig.raft.undo();
        rig.due("eight again", rig.raft.plan(0), -3);
    }

    /** "(-2: there is none, or so many THINGS there are not)" */
    private static void planThereIsNone() {
        Rig rig = Rig.on("there is none", "river 9 9;owner 9 0;thing 0 9 8 0");
        rowIs(rig, 0);
        rig.river("river 9 9;owner 9 0");
        rowIs(rig, 1);
        rig.river("river 9 9");
        rowIs(rig, 1);
        rig.river("river 9 9;owner 9 0;thing 0 9 9 0");
        rowIs(rig, 1, 0);
        rig.river("river 9 9;owner 9 0;thing 0 9 9 0;thing 0 1 0 0");
        rowIs(rig, 0);
        rig.river("river 9 9;owner 9 0;owner 8 0;thing 0 9 9 0;thing 1 0 0 0");
        rowIs(rig, 2, 0, 1);
        rig.river("river 9 9;owner 9 0;owner 8 0;thing 0 9 9 1;thing 1 0 0 0");
        rowIs(rig, 0);
    }

    /** "and have then (soaked till that MILE) FLOAT as much as WEIGHT, or more" */
    private static void planAsMuchOrMore() {
        for (int weight = 4; weight <= 6; weight++) {
            Rig rig = Rig.on("as much as weight, or more", "river 9 9;owner 5 0;owner 9 0;thing 0 0 20 0;thing 1 " + weight + " 10 1;thing 1 0 3 9;bound 0 1 1;bound 1 2 1");
            // at mile 5 thing 1 has 5, and thing 2 none; the same is asked at each mile ahead of that
            for (int mile = 0; mile < 5; mile++) {
                rig.due("mile", rig.raft.count(7), mile);
                rig.due("rows at mile " + mile, rig.raft.plan(-1), weight <= 5 ? 4 : 0);
                rig.due("the first", rig.raft.plan(0), weight <= 5 ? 0 : -2);
                rig.due("nothing sinks", rig.raft.mile(), mile == 4 && weight > 5 ? 2 : 0);
            }
            rig.due("afloat behind the landing", rig.raft.plan(-1), weight <= 5 ? 2 : 1);
        }
        for (int floats = 8; floats <= 10; floats++) {
            Rig rig = Rig.on("now", "river 9 9;owner 9 20;thing 0 9 " + floats + " 9");
            rig.due("rows", rig.raft.plan(-1), floats >= 9 ? 1 : 0);
        }
    }

    /** "those whose OWNERS land later (now: all) stand one behind the other in it" */
    private static void planLandLater() {
        // at mile 3: 1, 3, 4 together; at mile 6: 1 and 4 together
        Rig rig = Rig.on("those who land later", "river 9 9;owner 3 0;owner 6 0;owner 9 0;thing 0 0 9 0;thing 2 0 9 0;thing 0 0 9 0;thing 1 0 9 0;thing 2 0 9 0;bound 1 4 9");
        rowIs(rig, 6 * 2 * 2, 0, 1, 4, 3, 2);
        for (int i = 0; i < 3; i++) {
            rig.raft.mile();
        }
        rowIs(rig, 4, 1, 4, 3);
        for (int i = 0; i < 3; i++) {
            rig.raft.mile();
        }
        rowIs(rig, 2, 1, 4);
        for (int i = 0; i < 3; i++) {
            rig.raft.mile();
        }
        rig.due("all have landed, at the last mile", rig.raft.count(9), 0);
        rowIs(rig, 1);
        // six landings: each with one more must stand beside those who land later, at one of two ends
        rig = Rig.on("six landings", "river 9 9;owner 1 0;owner 2 0;owner 3 0;owner 4 0;owner 5 0;owner 6 0;thing 5 0 9 0;thing 4 0 9 0;thing 3 0 9 0;thing 2 0 9 0;thing 1 0 9 0;thing 0 0 9 0");
        rowIs(rig, 32, 0, 1, 2, 3, 4, 5);
        // now all are asked, though it is the landing of an owner of one: 0 was given to who has landed
        rig = Rig.on("now: all", "river 9 9;owner 1 0;owner 9 0;thing 1 0 9 0;thing 1 5 0 0;thing 1 0 9 0;bound 0 1 1;bound 1 2 1");
        rig.raft.mile();
        rig.raft.push(0, 0);
        rig.raft.push(2, 0);
        rowIs(rig, 6, 0, 1, 2);
        rig = Rig.on("landings of no thing do not count", "river 9 9;owner 1 0;owner 2 0;owner 9 0;thing 2 4 6 2;thing 2 0 0 0");
        rowIs(rig, 2, 0, 1);
    }

    // ---- Promise 22 ----

    /** "NONE without these." */
    private static void sawnWithoutThese() {
        Rig rig = new Rig("sawn: NONE without these");
        refused(rig, Twin.NEW, "sawn", PartyRaft::sawn, -1, new int[] {0, 0}, new int[] {0, 1}, new int[] {0, 2}, new int[] {1, 2});
        for (Twin.Ready ready : ALL) {
            refused(rig, ready, "sawn", PartyRaft::sawn, -1, new int[] {0, -1}, new int[] {0, 3}, new int[] {256, 0}, new int[] {-1, 2}, new int[] {1 << 31, 2}, new int[] {1 << 30, 1});
            refusedFarWhat(rig, ready, "sawn", PartyRaft::sawn);
        }
        refused(rig, Twin.RICH, "sawn", PartyRaft::sawn, -1, new int[] {32, 0}, new int[] {64, 1}, new int[] {128, 2}, new int[] {33, 2});
        refused(rig, Twin.LAST, "sawn", PartyRaft::sawn, -1, new int[] {1, 0}, new int[] {4, 1}, new int[] {12, 2});
    }

    private static void sawnIs(Rig rig, int things, int set, int sets) {
        rig.due("sawn(" + things + ", 0)", rig.raft.sawn(things, 0), set < 0 ? -2 : Integer.bitCount(set));
        rig.due("sawn(" + things + ", 1)", rig.raft.sawn(things, 1), set < 0 ? -2 : set);
        rig.due("sawn(" + things + ", 2)", rig.raft.sawn(things, 2), sets);
    }

    /** "-2: there is none (of 2: 0)" */
    private static void sawnThereIsNone() {
        Rig rig = Rig.on("there is none", "river 9 9;owner 9 0;thing 0 5 5 0;thing 0 5 4 0;thing 0 0 1 0;bound 1 2 1");
        sawnIs(rig, 0, 0, 1);
        sawnIs(rig, 2, 1, 1);
        for (int things : new int[] {1, 3, 4, 5, 6, 7}) {
            sawnIs(rig, things, -2, 0);
        }
        rig = Rig.on("no ropes", "river 9 9;owner 9 0;thing 0 5 4 0;thing 0 5 5 0");
        sawnIs(rig, 1, 0, 1);
        sawnIs(rig, 0, -2, 0);
        rig = Rig.on("no things", "river 9 9");
        sawnIs(rig, 0, 0, 1);
    }

    /** "the fewest, of several the least as bits; how many sets there are" */
    private static void sawnFewestThenLeast() {
        // 1 bears 0; 2 and 3 hang on 1 and float by themselves: 0 sinks alone, if the rope of 0 and 1 is gone, rope 2
        Rig rig = Rig.on("the fewest, then the least as bits", "river 9 9;owner 9 0;thing 0 5 0 0;thing 0 0 5 0;thing 0 0 0 0;thing 0 0 0 0;bound 1 2 1;bound 2 3 1;bound 0 1 1");
        sawnIs(rig, 1, 4, 4);
        sawnIs(rig, 0, 0, 4);
        // a round of four with two that are heavy: 0 sinks alone by both of its ropes
        rig = Rig.on("a round", "river 9 9;owner 9 0;thing 0 5 0 0;thing 0 0 5 0;thing 0 5 0 0;thing 0 0 5 0;bound 2 3 1;bound 1 2 1;bound 0 3 1;bound 0 1 1");
        sawnIs(rig, 1, 12, 3);
        sawnIs(rig, 4, 3, 3);
        sawnIs(rig, 5, 15, 1);
        sawnIs(rig, 0, 0, 7);
        sawnIs(rig, 7, 5, 1);
        sawnIs(rig, 13, 10, 1);
        // 0 sinks always; owner 1 rides it alone, and the others float, if one or both of the ropes are gone
        rig = Rig.on("of several the least", "river 9 9;owner 9 2;owner 9 5;thing 1 3 2 0;thing 1 3 3 0;thing 1 3 3 0;thing 0 1 3 0;bound 1 3 1;bound 2 3 1");
        sawnIs(rig, 1, 1, 3);
        sawnIs(rig, 15, 0, 1);
    }

    /** "sets of ROPES that could be gone now": each set makes just one set of things sink. */
    private static void sawnAllSets() {
        for (String text : new String[] {
            "river 9 9;owner 9 2;owner 9 1;thing 0 5 6 0;thing 1 4 5 0;thing 0 3 3 0;thing 1 2 4 0;bound 0 1 1;bound 1 2 1;bound 2 3 1;bound 0 3 1;bound 0 2 1;bound 1 3 1",
            "river 9 9;owner 9 2;thing 0 5 4 0;thing 0 4 5 0;thing 0 3 3 0",
            "river 9 9;owner 9 0;thing 0 9 0 0;thing 0 0 9 0;bound 0 1 9"}) {
            Rig rig = Rig.on("all sets", text);
            int sets = 0;
            for (int things = 0; things < 1 << rig.raft.count(3); things++) {
                sets += rig.raft.sawn(things, 2);
            }
            rig.due("all together", sets, 1 << rig.raft.count(4));
        }
        Rig rig = Rig.on("twelve ropes", "river 9 9;owner 9 0" + ";thing 0 0 0 0".repeat(6) + ";bound 0 1 1;bound 0 2 1;bound 0 3 1;bound 0 4 1;bound 0 5 1;bound 1 2 1;bound 1 3 1;bound 1 4 1;"
            + "bound 1 5 1;bound 2 3 1;bound 2 4 1;bound 2 5 1");
        sawnIs(rig, 0, 0, 4096);
        sawnIs(rig, 1, -2, 0);
        rig = Rig.on("twelve ropes", "river 9 9;owner 9 0;thing 0 5 0 0;thing 0 0 5 0" + ";thing 0 0 0 0".repeat(4) + ";bound 2 3 1;bound 0 2 1;bound 0 3 1;bound 0 4 1;bound 0 5 1;bound 1 2 1;bound 1 3 1;"
            + "bound 1 4 1;bound 1 5 1;bound 3 4 1;bound 4 5 1;bound 0 1 1");
        // only all five ropes of thing 0 free the others of it; of the seven others all may be gone or not
        sawnIs(rig, 1, 2 + 4 + 8 + 16 + 2048, 128);
    }

    // ---- Promise 23 ----

    /** "NONE without these, or a RIVER." */
    private static void locksWithoutThese() {
        Rig rig = new Rig("locks: NONE without these, or a river");
        refused(rig, Twin.NEW, "locks", PartyRaft::locks, -1, new int[] {10, 0}, new int[] {10, 1}, new int[] {1, 8});
        for (Twin.Ready ready : ALL) {
            refused(rig, ready, "locks", PartyRaft::locks, -1, new int[] {0, 0}, new int[] {201, 0}, new int[] {-1, 0}, new int[] {100, -1}, new int[] {100, 9}, new int[] {0, 9});
            for (int far : FAR) {
                refused(rig, ready, "locks", PartyRaft::locks, -1, new int[] {100, far});
                if (far < 1 || far > 200) {
                    refused(rig, ready, "locks", PartyRaft::locks, -1, new int[] {far, 0}, new int[] {far, 1});
                }
            }
        }
    }

    private static void wayIs(Rig rig, int room, int fewest, int... way) {
        rig.due("locks(" + room + ", 0)", rig.raft.locks(room, 0), fewest);
        for (int t = 0; t < 8; t++) {
            rig.due("locks(" + room + ", " + (t + 1) + ")", rig.raft.locks(room, t + 1), t < way.length ? way[t] : -1);
        }
    }

    /** "-2: one weighs too much" */
    private static void locksOneWeighsTooMuch() {
        Rig rig = Rig.on("one weighs too much", "river 9 9;owner 9 0;thing 0 3 9 0;thing 0 50 0 0;thing 0 2 9 0");
        for (int room : new int[] {1, 2, 3, 49}) {
            rig.due("of room " + room, rig.raft.locks(room, 0), -2);
            rig.due("of room " + room, rig.raft.locks(room, 1), -2);
            rig.due("of room " + room, rig.raft.locks(room, 3), -2);
        }
        wayIs(rig, 50, 2, 0, 1, 0);
        rig.raft.mile();
        // what sank weighs no more
        rig.due("of room 2", rig.raft.locks(2, 0), -2);
        wayIs(rig, 3, 2, 0, -1, 1);
        wayIs(rig, 5, 1, 0, -1, 0);
    }

    /** "LOCKS of a ROOM (1 to 200) ...: WEIGHT in each together is at most ROOM: the fewest" */
    private static void locksAtMostRoom() {
        Rig rig = Rig.on("at most room", "river 9 9;owner 9 0" + ";thing 0 25 0 0".repeat(8));
        wayIs(rig, 200, 1, 0, 0, 0, 0, 0, 0, 0, 0);
        wayIs(rig, 199, 2, 0, 0, 0, 0, 0, 0, 0, 1);
        wayIs(rig, 100, 2, 0, 0, 0, 0, 1, 1, 1, 1);
        wayIs(rig, 99, 3, 0, 0, 0, 1, 1, 1, 2, 2);
        wayIs(rig, 50, 4, 0, 0, 1, 1, 2, 2, 3, 3);
        wayIs(rig, 49, 8, 0, 1, 2, 3, 4, 5, 6, 7);
        wayIs(rig, 25, 8, 0, 1, 2, 3, 4, 5, 6, 7);
        rig.due("room 24", rig.raft.locks(24, 0), -2);
        rig = Rig.on("least room", "river 9 9;owner 9 0;thing 0 1 9 0;thing 0 0 9 0;thing 0 1 9 0;thing 0 0 9 0");
        wayIs(rig, 1, 2, 0, 0, 1, 0);
        wayIs(rig, 2, 1, 0, 0, 0, 0);
        rig = Rig.on("none weighs", "river 9 9;owner 9 0;thing 0 0 9 0;thing 0 0 9 0");
        wayIs(rig, 1, 1, 0, 0);
        rig = Rig.on("no things", "river 9 9");
        wayIs(rig, 1, 0);
        wayIs(rig, 200, 0);
        rig = Rig.on("none on the river", "river 9 9;owner 9 0;thing 0 9 0 0");
        rig.raft.mile();
        wayIs(rig, 1, 0);
    }

    /** "the first such way (LOCKINGS are numbered as THINGS, by their numbers, come to them; as a row by THINGS)" */
    private static void locksTheFirstWay() {
        Rig rig = Rig.on("the first such way", "river 9 9;owner 9 0;thing 0 3 9 0;thing 0 3 9 0;thing 0 2 9 0;thing 0 2 9 0;thing 0 2 9 0");
        // of 6: 3 with 3, and three twos
        wayIs(rig, 6, 2, 0, 0, 1, 1, 1);
        // of 5: 3 with 2 twice, and a 2
        wayIs(rig, 5, 3, 0, 1, 0, 1, 2);
        wayIs(rig, 7, 2, 0, 0, 1, 1, 1);
        wayIs(rig, 8, 2, 0, 0, 0, 1, 1);
        rig = Rig.on("not the first that fits", "river 9 9;owner 9 0;thing 0 2 9 0;thing 0 3 9 0;thing 0 7 9 0;thing 0 8 9 0");
        wayIs(rig, 10, 2, 0, 1, 1, 0);
    }

    // ---- Promises 24 and 25 ----

    /** "NONE for others, or without a RIVER." */
    private static void deltaForOthers() {
        Rig rig = new Rig("delta: NONE for others, or without a river");
        Twin.nothing(rig, Twin.NEW, "delta(0)", r -> r.delta(0), -1);
        Twin.nothing(rig, Twin.NEW, "delta(1)", r -> r.delta(1), -1);
        for (Twin.Ready ready : ALL) {
            Twin.nothing(rig, ready, "delta(-1)", r -> r.delta(-1), -1);
            Twin.nothing(rig, ready, "delta(2)", r -> r.delta(2), -1);
            for (int far : FAR) {
                Twin.nothing(rig, ready, "delta(" + far + ")", r -> r.delta(far), -1);
            }
        }
    }

    /** "to bind two THINGS takes 1 and the fifth part (downwards) of by how much their WEIGHTS differ" */
    private static void deltaFifthPart() {
        for (int weight = 0; weight <= 50; weight++) {
            Rig rig = Rig.on("the fifth part, downwards", "river 9 0;owner 9 0;thing 0 " + weight + " 9 0;thing 0 0 9 0");
            rig.due("0 and " + weight, rig.raft.delta(0), 1 + weight / 5);
            rig.due("by one", rig.raft.delta(1), 1);
            rig = Rig.on("the fifth part, downwards", "river 9 0;owner 9 0;thing 0 25 9 0;thing 0 " + weight + " 9 0");
            rig.due("25 and " + weight, rig.raft.delta(0), 1 + Math.abs(25 - weight) / 5);
        }
    }

    /** "the least ROPE by which all THINGS on the river become one PIECE (ROPES there are stay): how much, by how many" */
    private static void deltaOneOrNone() {
        Rig rig = Rig.on("one piece", "river 9 99;owner 9 0" + ";thing 0 0 9 0".repeat(8));
        for (int t = 0; t < 7; t++) {
            rig.due("rope", rig.raft.delta(0), 7 - t);
            rig.due("by how many", rig.raft.delta(1), 7 - t);
            rig.raft.bind(t, t + 1, 1);
        }
        rig.due("one piece already", rig.raft.delta(0), 0);
        rig.due("one piece already", rig.raft.delta(1), 0);
        for (String text : new String[] {"river 9 0", "river 9 0;owner 9 0;thing 0 50 0 0"}) {
            rig = Rig.on("one or none", text);
            rig.due("rope", rig.raft.delta(0), 0);
            rig.due("by how many", rig.raft.delta(1), 0);
            rig.raft.mile();
            rig.due("none on the river", rig.raft.delta(0), 0);
            rig.due("none on the river", rig.raft.delta(1), 0);
        }
        rig = Rig.on("all things on the river", "river 9 0;owner 1 0;owner 9 0;thing 0 0 9 0;thing 1 9 0 0;thing 1 25 50 0;thing 1 0 9 0;thing 1 12 50 0;thing 1 50 50 0");
        rig.raft.mile();
        // 0 landed and 1 sank; 3 to 4: 1 + 12 / 5, 4 to 2: 1 + 13 / 5, 2 to 5: 1 + 25 / 5
        rig.due("rope", rig.raft.delta(0), 3 + 3 + 6);
        rig.due("by how many", rig.raft.delta(1), 3);
        // a rope there is can be dear: 0 with 50 is bound, 1 goes to the nearer one
        rig = Rig.on("ropes there are stay", "river 9 0;owner 9 0;thing 0 0 9 0;thing 0 50 9 0;thing 0 26 9 0;bound 0 1 1");
        rig.due("rope", rig.raft.delta(0), 1 + 24 / 5);
        rig.due("by how many", rig.raft.delta(1), 1);
    }

    /** "NONE for others, or without a RIVER." */
    private static void weakForOthers() {
        Rig rig = new Rig("weak: NONE for others, or without a river");
        Twin.nothing(rig, Twin.NEW, "weak(0)", r -> r.weak(0), -1);
        Twin.nothing(rig, Twin.NEW, "weak(1)", r -> r.weak(1), -1);
        for (Twin.Ready ready : ALL) {
            Twin.nothing(rig, ready, "weak(-1)", r -> r.weak(-1), -1);
            Twin.nothing(rig, ready, "weak(2)", r -> r.weak(2), -1);
            for (int far : FAR) {
                Twin.nothing(rig, ready, "weak(" + far + ")", r -> r.weak(far), -1);
            }
        }
    }

    private static void weakIs(Rig rig, int ropes, int things) {
        rig.due("ropes", rig.raft.weak(0), ropes);
        rig.due("things", rig.raft.weak(1), things);
    }

    /** "ROPES, each by itself without which its PIECE falls apart; THINGS, each by itself without which (and its ROPES) the others of its PIECE fall apart." */
    private static void weakFallsApart() {
        weakIs(Rig.on("nothing", "river 9 0"), 0, 0);
        weakIs(Rig.on("one thing has no others", "river 9 0;owner 9 0;thing 0 0 9 0"), 0, 0);
        weakIs(Rig.on("of two one is left, and that does not fall apart", "river 9 0;owner 9 0;thing 0 0 9 0;thing 0 0 9 0;bound 0 1 1"), 1, 0);
        weakIs(Rig.on("of three in a row the middle", "river 9 0;owner 9 0;thing 0 0 9 0;thing 0 0 9 0;thing 0 0 9 0;bound 0 2 1;bound 1 2 1"), 3, 4);
        weakIs(Rig.on("of three in a row the first", "river 9 0;owner 9 0;thing 0 0 9 0;thing 0 0 9 0;thing 0 0 9 0;bound 0 2 1;bound 0 1 1"), 3, 1);
        weakIs(Rig.on("a round of three", "river 9 0;owner 9 0;thing 0 0 9 0;thing 0 0 9 0;thing 0 0 9 0;bound 0 2 1;bound 1 2 1;bound 0 1 1"), 0, 0);
        weakIs(Rig.on("two by themselves are no piece that falls apart", "river 9 0;owner 9 0;thing 0 0 9 0;thing 0 0 9 0"), 0, 0);
        // two rounds that share thing 3
        weakIs(Rig.on("two rounds", "river 9 0;owner 9 0" + ";thing 0 0 9 0".repeat(5) + ";bound 0 1 1;bound 1 3 1;bound 0 3 1;bound 3 2 1;bound 2 4 1;bound 4 3 1"), 0, 8);
        // two rounds with a rope between them, the last of twelve and of eight
        weakIs(Rig.on("a rope between", "river 9 0;owner 9 0" + ";thing 0 0 9 0".repeat(8) + ";bound 0 1 1;bound 1 2 1;bound 2 3 1;bound 3 0 1;bound 0 2 1;bound 1 3 1;"
            + "bound 4 5 1;bound 5 6 1;bound 6 7 1;bound 7 4 1;bound 4 6 1;bound 3 7 1"), 2048, 8 + 128);
        Rig rig = Rig.on("what sank binds no more", "river 9 0;owner 1 0;owner 9 0;thing 1 0 9 0;thing 0 0 9 0;thing 1 0 9 0;thing 1 0 9 0;bound 0 1 1;bound 1 2 1;bound 2 3 1;bound 0 2 1");
        weakIs(rig, 4, 4);
        rig.raft.mile();
        weakIs(rig, 3, 4);
    }

    // ---- Promise 26 ----

    /** "-2, and nothing happens, without these, or a RIVER, or if there are 6." */
    private static void offerNothingHappens() {
        Rig rig = new Rig("offer: nothing happens without these, or a river, or if there are 6");
        Twin.nothing(rig, Twin.NEW, "no river", r -> r.offer(0, 0, 0), -2);
        Twin.nothing(rig, Twin.NEW, "no river", r -> r.offer(50, 99, 9), -2);
        Twin.nothing(rig, Twin.FULL, "a seventh", r -> r.offer(0, 0, 0), -2);
        Twin.nothing(rig, Twin.FULL, "a seventh", r -> r.offer(50, 99, 9), -2);
        for (Twin.Ready ready : ALL) {
            Twin.nothing(rig, ready, "weight 51", r -> r.offer(51, 1, 1), -2);
            Twin.nothing(rig, ready, "weight -2", r -> r.offer(-2, 1, 1), -2);
            Twin.nothing(rig, ready, "float 100", r -> r.offer(1, 100, 1), -2);
            Twin.nothing(rig, ready, "float -1", r -> r.offer(1, -1, 1), -2);
            Twin.nothing(rig, ready, "soak 10", r -> r.offer(1, 1, 10), -2);
            Twin.nothing(rig, ready, "soak -1", r -> r.offer(1, 1, -1), -2);
            for (int far : new int[] {Integer.MIN_VALUE, -100, 1000, Integer.MAX_VALUE}) {
                Twin.nothing(rig, ready, "weight " + far, r -> r.offer(far, 1, 1), -2);
                Twin.nothing(rig, ready, "float " + far, r -> r.offer(1, far, 1), -2);
                Twin.nothing(rig, ready, "soak " + far, r -> r.offer(1, 1, far), -2);
            }
        }
    }

    /** "weight NONE: there are none then, 0" */
    private static void offersNoneThen() {
        Rig rig = new Rig("there are none then");
        Twin.nothing(rig, Twin.NEW, "without a river", r -> r.offer(-1, 0, 0), 0);
        for (int[] rest : new int[][] {{0, 0}, {99, 9}, {-1, -1}, {100, 10}, {Integer.MIN_VALUE, Integer.MAX_VALUE}}) {
            Twin.alike(rig, "with " + rest[0] + " and " + rest[1], r -> {
                Twin.FULL.make(r);
                rig.due("none", r.offer(-1, rest[0], rest[1]), 0);
                rig.due("offers", r.count(10), 0);
                rig.due("take", r.take(0, 0), -2);
            }, r -> {
                Twin.FULL.make(r);
                r.offer(-1, 0, 0);
            });
        }
        PartyRaft r = new PartyRaft();
        Twin.FULL.make(r);
        rig.due("acts before", r.count(11), 20);
        r.offer(-1, 0, 0);
        rig.due("it is no act", r.count(11), 20);
        rig.due("none of none", r.offer(-1, 0, 0), 0);
        rig.due("the first anew", r.offer(1, 1, 1), 1);
    }

    /** "OFFERS 0 to 5 at the mill"; "WEIGHT 0 to 50, FLOAT 0 to 99, SOAK 0 to 9: how many" */
    private static void offersSix() {
        Rig rig = Rig.on("offers 0 to 5", "river 9 9;owner 9 0;thing 0 9 8 0;thing 0 9 0 0");
        int[][] offers = {{0, 0, 0}, {50, 99, 9}, {50, 0, 0}, {0, 0, 9}, {50, 99, 0}, {0, 99, 0}};
        for (int i = 0; i < 6; i++) {
            rig.due("offer", rig.raft.offer(offers[i][0], offers[i][1], offers[i][2]), i + 1);
            rig.due("offers", rig.raft.count(10), i + 1);
        }
        rig.due("a seventh", rig.raft.offer(1, 1, 1), -2);
        rig.due("offers", rig.raft.count(10), 6);
        rig.due("4 is well for all miles, and ahead of 5", rig.raft.take(0, 0), 4);
        rig.due("miles", rig.raft.take(0, 1), 100);
        rig.due("4 for another", rig.raft.take(1, 0), 4);
        rig.raft.offer(-1, 0, 0);
        for (int i = 0; i < 6; i++) {
            rig.raft.offer(i == 5 ? 0 : 50, 10, 0);
        }
        rig.due("the last of six", rig.raft.take(0, 0), 5);
    }

    // ---- Promises 27 and 28 ----

    /** "NONE without these (a THING on the river)." */
    private static void takeWithoutThese() {
        Rig rig = new Rig("take: NONE without these");
        for (Twin.Ready ready : ALL) {
            PartyRaft r = new PartyRaft();
            ready.make(r);
            refused(rig, ready, "take", PartyRaft::take, -1, new int[] {-1, 0}, new int[] {r.count(3), 0}, new int[] {3, -1}, new int[] {3, 2});
            refusedFar(rig, ready, "take", PartyRaft::take, -1, 3);
        }
        refused(rig, Twin.RICH, "take of what sank", PartyRaft::take, -1, new int[] {5, 0}, new int[] {5, 1});
        refused(rig, Twin.LAST, "take of what landed", PartyRaft::take, -1, new int[] {0, 0}, new int[] {1, 1});
        refused(rig, Twin.LAST, "take of what sank", PartyRaft::take, -1, new int[] {2, 0}, new int[] {2, 1});
    }

    private static void takeIs(Rig rig, int thing, int offer, int miles) {
        rig.due("take(" + thing + ", 0)", rig.raft.take(thing, 0), offer);
        rig.due("take(" + thing + ", 1)", rig.raft.take(thing, 1), miles);
    }

    /** "MILES from now on for which its MARGIN is not below 0"; "(0: its MARGIN is below 0 now)" */
    private static void takeNotBelowZero() {
        for (int floats = 7; floats <= 12; floats++) {
            Rig rig = Rig.on("not below 0", "river 2 0;owner 1 3;thing 0 6 " + floats + " 1");
            takeIs(rig, 0, -2, Math.max(0, floats - 8));
            rig.raft.offer(1, 1, 0);
            takeIs(rig, 0, -2, Math.max(0, floats - 8));
            rig.raft.offer(1, 2, 0);
            takeIs(rig, 0, floats >= 8 ? 1 : -2, Math.max(0, floats - 7));
            rig.raft.offer(2, 8, 5);
            // 6 more now, 1 more at the next mile, then 2 less: one mile, or two from 9 on
            takeIs(rig, 0, floats == 7 ? 2 : 1, floats == 7 ? 1 : floats - 7);
        }
        Rig rig = Rig.on("below 0 whatever is taken", "river 2 0;owner 1 0;thing 0 50 0 0");
        rig.raft.offer(0, 49, 0);
        takeIs(rig, 0, -2, 0);
        rig.raft.offer(0, 50, 9);
        takeIs(rig, 0, 1, 1);
        // it is now where it is: at the last mile too
        rig = new Rig("at the last mile");
        Twin.LAST.make(rig.raft);
        takeIs(rig, 3, -2, 7);
    }

    /** "(THINGS soak, else nothing happens; 100 at most)" */
    private static void takeHundredAtMost() {
        Rig rig = Rig.on("100 at most", "river 2 0;owner 1 0;owner 2 0;thing 0 1 99 1;thing 0 0 99 1;thing 0 0 0 9;thing 1 1 0 0;bound 0 2 9;rapid 1 9");
        takeIs(rig, 0, -2, 99);
        takeIs(rig, 1, -2, 100);
        takeIs(rig, 2, -2, 99);
        rig.raft.offer(0, 1, 0);
        takeIs(rig, 0, 0, 100);
        takeIs(rig, 1, -2, 100);
        takeIs(rig, 3, 0, 100);
        rig.raft.offer(0, 99, 1);
        takeIs(rig, 3, 0, 100);
        rig.raft.offer(-1, 0, 0);
        rig.raft.offer(0, 99, 1);
        takeIs(rig, 3, 0, 99);
        rig.raft.offer(0, 99, 0);
        takeIs(rig, 3, 1, 100);
    }

    /** "the OFFER with the most, of several the least, none ahead of all"; "(-2: none of them)" */
    private static void takeOfSeveral() {
        Rig rig = Rig.on("the most, of several the least, none ahead of all", "river 9 0;owner 9 0;thing 0 0 4 2;thing 0 1 5 1;bound 0 1 1");
        // 8, 5, 2, 1, 0, -1
        takeIs(rig, 0, -2, 5);
        rig.raft.offer(0, 0, 0);
        takeIs(rig, 0, -2, 5);
        rig.raft.offer(9, 0, 0);
        takeIs(rig, 0, -2, 5);
        rig.raft.offer(1, 2, 0);
        takeIs(rig, 1, 2, 100);
        rig.raft.offer(0, 99, 0);
        takeIs(rig, 1, 2, 100);
        rig.raft.offer(-1, 0, 0);
        rig.raft.offer(0, 6, 1);
        rig.raft.offer(0, 7, 1);
        rig.raft.offer(1, 8, 1);
        // the first has 1 at mile 5, and 0 at mile 6; the second 1 at mile 6, and 0 at mile 7
        takeIs(rig, 0, 1, 7);
    }

    /** "NONE without these (a THING on the river)." */
    private static void gameWithoutThese() {
        Rig rig = new Rig("game: NONE without these");
        for (Twin.Ready ready : ALL) {
            PartyRaft r = new PartyRaft();
            ready.make(r);
            refused(rig, ready, "game", PartyRaft::game, -1, new int[] {-1, 0}, new int[] {r.count(3), 0}, new int[] {3, -1}, new int[] {3, 2});
            refusedFar(rig, ready, "game", PartyRaft::game, -1, 3);
        }
        refused(rig, Twin.RICH, "game of what sank", PartyRaft::game, -1, new int[] {5, 0}, new int[] {5, 1});
        refused(rig, Twin.LAST, "game of what landed", PartyRaft::game, -1, new int[] {0, 0}, new int[] {1, 1});
        refused(rig, Twin.LAST, "game of what sank", PartyRaft::game, -1, new int[] {2, 0}, new int[] {2, 1});
    }

    private static void gameIs(Rig rig, int thing, int by) {
        rig.due("game(" + thing + ", 0)", rig.raft.game(thing, 0), by < 0 ? 0 : 1);
        rig.due("game(" + thing + ", 1)", rig.raft.game(thing, 1), by);
    }

    /** "so that those left have FLOAT as much as WEIGHT, or more (OWNERS not asked ...)" */
    private static void gameAsMuchOrMore() {
        for (int floats = 4; floats <= 6; floats++) {
            // 0 has to go first, and then 1 must float: two are left, and who begins takes the last of three
            Rig rig = Rig.on("as much as weight, or more", "river 9 0;owner 9 20;thing 0 50 0 0;thing 0 5 " + floats + " 9;thing 0 0 0 9;bound 0 1 1;bound 1 2 1");
            for (int t = 0; t < 3; t++) {
                gameIs(rig, t, floats >= 5 ? 0 : -2);
            }
            // of five: without 1 the others float, if 2 has as much as 3 weighs
            rig = Rig.on("as much as weight, or more", "river 9 0;owner 9 20;thing 0 0 1 0;thing 0 50 0 0;thing 0 0 " + floats + " 9;thing 0 6 0 0;thing 0 0 0 0;"
                + "bound 0 1 1;bound 1 2 1;bound 2 3 1;bound 3 4 1");
            gameIs(rig, 4, floats >= 5 ? 1 : -2);
        }
        // if it is another's turn when one is left, who begins has lost
        Rig rig = Rig.on("two", "river 9 0;owner 9 0;thing 0 0 9 0;thing 0 0 9 0;bound 0 1 1");
        gameIs(rig, 0, -2);
        // 0 bears 1: it can't go first, so 1 is the least
        rig = Rig.on("the least by which", "river 9 0;owner 9 0;thing 0 0 5 0;thing 0 5 0 0;thing 0 0 0 0;bound 0 1 1;bound 1 2 1");
        gameIs(rig, 2, 1);
    }

    /** "none left is well; who can't has lost" */
    private static void gameNoneLeft() {
        Rig rig = Rig.on("none left is well", "river 9 0;owner 9 20;thing 0 50 0 9;thing 0 0 99 0;thing 0 50 0 0;thing 0 50 0 0;bound 2 3 1");
        gameIs(rig, 0, 0);
        gameIs(rig, 1, 1);
        // of two that do not float none can be taken
        gameIs(rig, 2, -2);
        gameIs(rig, 3, -2);
        rig = Rig.on("one to eight", "river 9 9;owner 9 0" + ";thing 0 0 0 0".repeat(7) + ";thing 0 9 9 0");
        gameIs(rig, 7, 7);
        for (int t = 0; t < 7; t++) {
            gameIs(rig, t, t % 2 == 0 ? 0 : -2);
            rig.raft.bind(t, t + 1, 1);
        }
        gameIs(rig, 7, -2);
    }
}
