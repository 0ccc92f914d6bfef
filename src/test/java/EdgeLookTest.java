/**
 * The document's sentences on what is too small or too large, empty or full, or refused, each with a
 * test of its own: promises 6 to 10 and 31, and PIECES, who RIDES them, and their MARGIN.
 */
public final class EdgeLookTest {
    private static final int[] FAR = {Integer.MIN_VALUE, -10000, -2, -1, 31, 32, 33, 64, 256, 65536, Integer.MAX_VALUE};

    public static void main(String[] args) {
        ownerWithoutThese();
        ownerStates();
        ownerRidesNone();
        ridesWhereMostAre();
        thingWithoutThese();
        thingNotOnTheRiver();
        ropeWithoutThese();
        ropeTheLesserFirst();
        rapidWithoutThatMile();
        rapidThereIsNone();
        marginWithoutOneOnTheRiver();
        marginIsZeroOrAbove();
        countForOthers();
        countsAtTheirEnds();
        nothingChangesByLooks();
        Rig.close();
    }

    /** A river with as many owners, things and ropes as there can be, the last of each unlike the others. */
    private static Rig full(String name) {
        Rig rig = new Rig(name);
        Twin.FULL.make(rig.raft);
        return rig;
    }

    /** Promise 6: "NONE without these." */
    private static void ownerWithoutThese() {
        Rig rig = Rig.on("owner: NONE without these", "river 9 9;owner 2 3;owner 4 5;owner 6 7;owner 8 9;owner 9 11;owner 1 20;thing 5 0 9 0");
        for (int what = 0; what < 3; what++) {
            rig.due("the last owner, what " + what, rig.raft.owner(5, what), new int[] {1, 20, 0}[what]);
        }
        rig.due("the last owner, what 3", rig.raft.owner(5, 3), 0);
        for (int what = -1; what <= 4; what++) {
            rig.due("owner(6, " + what + ")", rig.raft.owner(6, what), -1);
            rig.due("owner(-1, " + what + ")", rig.raft.owner(-1, what), -1);
        }
        for (int far : FAR) {
            rig.due("owner(" + far + ", 0)", rig.raft.owner(far, 0), -1);
            rig.due("owner(0, " + far + ")", rig.raft.owner(0, far), -1);
        }
        rig.due("owner(0, 4)", rig.raft.owner(0, 4), -1);
        rig = Rig.on("owner: NONE without these", "river 9 9;owner 2 3");
        rig.due("the only one", rig.raft.owner(0, 0), 2);
        for (int what = 0; what < 4; what++) {
            rig.due("one that was not told, what " + what, rig.raft.owner(1, what), -1);
        }
        rig = Rig.on("owner: NONE without these", "river 9 9");
        rig.due("none was told", rig.raft.owner(0, 0), -1);
        rig = new Rig("owner: NONE without these");
        rig.due("no river", rig.raft.owner(0, 0), -1);
    }

    /** "2: 0 aboard, 1 LANDED, 2 WET" */
    private static void ownerStates() {
        Rig rig = Rig.on("0 aboard, 1 landed, 2 wet", "river 3 9;owner 2 1;owner 3 0;owner 3 1;thing 0 1 9 0;thing 1 0 0 0;thing 2 0 2 1");
        int[][] want = {{0, 0, 0}, {0, 0, 0}, {1, 0, 2}, {1, 1, 2}};
        for (int mile = 0; mile <= 3; mile++) {
            for (int o = 0; o < 3; o++) {
                rig.due("owner " + o + " at mile " + mile, rig.raft.owner(o, 2), want[mile][o]);
            }
            rig.raft.mile();
        }
        rig.due("what was told stays", rig.raft.owner(2, 0), 3);
        rig.due("what was told stays", rig.raft.owner(2, 1), 1);
    }

    /** "3: the least THING of the PIECE they RIDE (NONE)"; "(none of theirs on the river: none)" */
    private static void ownerRidesNone() {
        Rig rig = Rig.on("rides none", "river 9 9;owner 1 1;owner 9 1;owner 9 20;owner 9 2;thing 0 0 9 0;thing 1 0 9 0;thing 2 0 9 0");
        PartyRaft r = rig.raft;
        rig.due("no thing of theirs", r.owner(3, 3), -1);
        rig.due("aboard though", r.owner(3, 2), 0);
        r.push(1, 3);
        rig.due("a thing that was given", r.owner(3, 3), 1);
        rig.due("who gave it", r.owner(1, 3), -1);
        r.mile();
        rig.due("landed", r.owner(0, 3), -1);
        rig.due("wet", r.owner(2, 3), -1);
        rig.due("aboard", r.owner(3, 3), 1);
        // things given to who has landed or is wet, and so is not aboard
        r.push(1, 0);
        rig.due("landed, with a thing on the river", r.owner(0, 3), -1);
        r.push(1, 2);
        rig.due("wet, with a thing on the river", r.owner(2, 3), -1);
        rig.due("nor do they weigh", r.margin(1), 9);
    }

    /** "the PIECE in which most of their THINGS are, of several that with the least THING in it" */
    private static void ridesWhereMostAre() {
        Rig rig = Rig.on("where most are", "river 9 99;owner 9 3;owner 9 0;thing 1 0 9 0;thing 0 0 9 0;thing 0 0 9 0;thing 1 0 9 0;thing 0 0 9 0;thing 0 0 9 0");
        PartyRaft r = rig.raft;
        rig.due("one in each of four: that of the least", r.owner(0, 3), 1);
        r.bind(5, 0, 1);
        rig.due("one in each of four, with thing 0 in one", r.owner(0, 3), 0);
        rig.due("margin with the owner", r.margin(5), 18 - 3);
        rig.due("margin without", r.margin(1), 9);
        r.bind(4, 3, 1);
        rig.due("still", r.owner(0, 3), 0);
        r.bind(2, 4, 1);
        rig.due("two in one", r.owner(0, 3), 2);
        rig.due("margin with the owner", r.margin(3), 27 - 3);
        r.bind(1, 5, 1);
        rig.due("two in each of two", r.owner(0, 3), 0);
        r.push(0, 0);
        rig.due("three of four", r.owner(0, 3), 0);
        r.push(3, 0);
        rig.due("three in each of two", r.owner(0, 3), 0);
        r.push(0, 1);
        rig.due("two against three", r.owner(0, 3), 2);
        // the number of things in the piece does not count, only theirs
        rig = Rig.on("of theirs", "river 9 99;owner 9 3;owner 9 0;thing 1 0 9 0;thing 1 0 9 0;thing 1 0 9 0;thing 0 0 9 0;thing 0 0 9 0;thing 0 0 9 0;"
            + "bound 0 1 1;bound 1 2 1;bound 2 3 1;bound 4 5 1");
        rig.due("one of four, or two of two", rig.raft.owner(0, 3), 4);
    }

    /** Promise 7: "NONE without these." */
    private static void thingWithoutThese() {
        Rig rig = Rig.on("thing: NONE without these", "river 9 9;owner 2 3;owner 9 0;" + "thing 0 1 2 3;".repeat(7) + "thing 1 50 99 9");
        for (int what = 0; what < 6; what++) {
            rig.due("the last thing, what " + what, rig.raft.thing(7, what), new int[] {1, 50, 99, 9, 0, 128}[what]);
        }
        for (int what = -1; what <= 6; what++) {
            rig.due("thing(8, " + what + ")", rig.raft.thing(8, what), -1);
            rig.due("thing(-1, " + what + ")", rig.raft.thing(-1, what), -1);
        }
        for (int far : FAR) {
            rig.due("thing(" + far + ", 0)", rig.raft.thing(far, 0), -1);
            rig.due("thing(0, " + far + ")", rig.raft.thing(0, far), -1);
        }
        rig.due("thing(0, 6)", rig.raft.thing(0, 6), -1);
        rig = Rig.on("thing: NONE without these", "river 9 9;owner 2 3;thing 0 1 2 3");
        for (int what = 0; what < 6; what++) {
            rig.due("one that was not told, what " + what, rig.raft.thing(1, what), -1);
        }
        rig = Rig.on("thing: NONE without these", "river 9 9;owner 2 3");
        rig.due("none was told", rig.raft.thing(0, 5), -1);
        rig = new Rig("thing: NONE without these");
        rig.due("no river", rig.raft.thing(0, 5), -1);
    }

    /** "4: 0 on the river, 1 LANDED, 2 SUNK, 5: its PIECE, as bits (0: not on the river)" */
    private static void thingNotOnTheRiver() {
        Rig rig = Rig.on("not on the river", "river 9 9;owner 2 0;owner 9 0;thing 0 1 9 1;thing 1 3 6 2;thing 1 0 9 0;bound 0 2 1");
        PartyRaft r = rig.raft;
        r.mile();
        int[][] before = {{0, 0, 5}, {0, 0, 2}, {0, 0, 5}};
        int[][] after = {{1, 0}, {2, 0}, {0, 4}};
        for (int t = 0; t < 3; t++) {
            rig.due("place of " + t, r.thing(t, 4), before[t][0]);
            rig.due("piece of " + t, r.thing(t, 5), before[t][2]);
        }
        r.mile();
        for (int t = 0; t < 3; t++) {
            rig.due("place of " + t, r.thing(t, 4), after[t][0]);
            rig.due("piece of " + t, r.thing(t, 5), after[t][1]);
        }
        // what landed or sank keeps the float that it had then
        r.mile();
        rig.due("float of what landed", r.thing(0, 2), 7);
        rig.due("float of what sank", r.thing(1, 2), 2);
        rig.due("owner of what landed", r.thing(0, 0), 0);
        rig.due("weight of what sank", r.thing(1, 1), 3);
        rig.due("soak of what sank", r.thing(1, 3), 2);
    }

    /** Promise 8: "NONE without these." */
    private static void ropeWithoutThese() {
        Rig rig = full("rope: NONE without these");
        for (int what = 0; what < 3; what++) {
            rig.due("the last rope, what " + what, rig.raft.rope(11, what), new int[] {3, 7, 4}[what]);
        }
        for (int what = -1; what <= 3; what++) {
            rig.due("rope(12, " + what + ")", rig.raft.rope(12, what), -1);
            rig.due("rope(-1, " + what + ")", rig.raft.rope(-1, what), -1);
        }
        for (int far : FAR) {
            rig.due("rope(" + far + ", 0)", rig.raft.rope(far, 0), -1);
            rig.due("rope(0, " + far + ")", rig.raft.rope(0, far), -1);
        }
        rig.due("rope(0, 3)", rig.raft.rope(0, 3), -1);
        rig.raft.cut(0);
        rig.due("eleven are left", rig.raft.rope(11, 0), -1);
        rig.due("the last of them", rig.raft.rope(10, 2), 4);
        rig = Rig.on("rope: NONE without these", "river 9 9;owner 9 0;thing 0 0 0 0;thing 0 0 0 0");
        rig.due("none was told", rig.raft.rope(0, 0), -1);
        rig.raft.bind(0, 1, 1);
        rig.due("one was bound", rig.raft.rope(0, 0), 0);
        rig.raft.saw(0);
        rig.due("it is gone", rig.raft.rope(0, 0), -1);
        rig = new Rig("rope: NONE without these");
        rig.due("no river", rig.raft.rope(0, 0), -1);
    }

    /** "0, 1: its THINGS, the lesser first" */
    private static void ropeTheLesserFirst() {
        Rig rig = Rig.on("the lesser first", "river 9 9;owner 9 0" + ";thing 0 0 0 0".repeat(3) + ";bound 2 0 3");
        rig.due("told", rig.raft.rope(0, 0), 0);
        rig.due("told", rig.raft.rope(0, 1), 2);
        rig.raft.bind(2, 1, 4);
        rig.due("bound", rig.raft.rope(1, 0), 1);
        rig.due("bound", rig.raft.rope(1, 1), 2);
        rig.due("strength", rig.raft.rope(1, 2), 4);
    }

    /** Promise 9: "NONE without that MILE (0 and on)." */
    private static void rapidWithoutThatMile() {
        for (int miles : new int[] {2, 9, 98, 99}) {
            Rig rig = Rig.on("rapid: NONE without that mile, of " + miles, "river " + miles + " 0;rapid " + miles + " 9;rapid 1 1");
            rig.due("rapid(-1)", rig.raft.rapid(-1), -1);
            rig.due("rapid(0)", rig.raft.rapid(0), 0);
            rig.due("rapid(1)", rig.raft.rapid(1), 1);
            rig.due("the last mile", rig.raft.rapid(miles), 9);
            rig.due("one mile more", rig.raft.rapid(miles + 1), -1);
            for (int far : new int[] {Integer.MIN_VALUE, -2, 100, 400, Integer.MAX_VALUE}) {
                rig.due("rapid(" + far + ")", rig.raft.rapid(far), -1);
            }
            rig.raft.mile();
            rig.raft.mile();
            rig.due("a mile that is behind", rig.raft.rapid(0), 0);
            rig.due("a mile that is behind", rig.raft.rapid(1), 1);
        }
        Rig rig = new Rig("rapid: NONE without a river");
        rig.due("rapid(0)", rig.raft.rapid(0), -1);
        rig.due("rapid(1)", rig.raft.rapid(1), -1);
    }

    /** "(0: there is none)" */
    private static void rapidThereIsNone() {
        Rig rig = Rig.on("0: there is no rapid", "river 4 0;rapid 3 7");
        int[] want = {0, 0, 0, 7, 0};
        for (int mile = 0; mile <= 4; mile++) {
            rig.due("rapid(" + mile + ")", rig.raft.rapid(mile), want[mile]);
        }
        // one of the river that was there before is no more
        rig.river("river 4 0;rapid 2 5");
        rig.due("rapid(3)", rig.raft.rapid(3), 0);
        rig.due("rapid(2)", rig.raft.rapid(2), 5);
    }

    /** Promise 10: "-10000 without one on the river." */
    private static void marginWithoutOneOnTheRiver() {
        Rig rig = new Rig("margin: -10000 without one on the river");
        rig.due("no river", rig.raft.margin(0), -10000);
        rig.river("river 9 9;owner 1 0;owner 9 0;thing 0 0 9 0;thing 1 9 0 0;thing 1 0 9 0");
        rig.due("the last", rig.raft.margin(2), 9);
        rig.due("one more", rig.raft.margin(3), -10000);
        for (int far : FAR) {
            rig.due("margin(" + far + ")", rig.raft.margin(far), -10000);
        }
        rig.raft.mile();
        rig.due("what landed", rig.raft.margin(0), -10000);
        rig.due("what sank", rig.raft.margin(1), -10000);
        rig.due("what is left", rig.raft.margin(2), 9);
        rig = Rig.on("margin: at its ends", "river 9 9;owner 1 20" + ";thing 0 50 0 0".repeat(8) + ";bound 0 1 1;bound 1 2 1;bound 2 3 1;bound 3 4 1;bound 4 5 1;bound 5 6 1;bound 6 7 1");
        rig.due("the least there can be of one owner", rig.raft.margin(7), -420);
        rig = Rig.on("margin: at its ends", "river 9 9;owner 1 0" + ";thing 0 0 99 0".repeat(8) + ";bound 0 1 1;bound 1 2 1;bound 2 3 1;bound 3 4 1;bound 4 5 1;bound 5 6 1;bound 6 7 1");
        rig.due("the most there can be", rig.raft.margin(0), 8 * 99);
    }

    /** "it FLOATS, if that is 0 or above" */
    private static void marginIsZeroOrAbove() {
        for (int floats = 4; floats <= 6; floats++) {
            Rig rig = Rig.on("floats, if margin is 0 or above", "river 9 9;owner 9 2;thing 0 3 " + floats + " 0");
            rig.due("margin", rig.raft.margin(0), floats - 5);
            rig.due("sinks", rig.raft.mile(), floats < 5 ? 1 : 0);
            rig.due("on the river", rig.raft.thing(0, 4), floats < 5 ? 2 : 0);
            rig.due("owner", rig.raft.owner(0, 2), floats < 5 ? 2 : 0);
        }
    }

    /** Promise 31: "NONE for others." */
    private static void countForOthers() {
        for (Twin.Ready ready : new Twin.Ready[] {Twin.NEW, Twin.RICH, Twin.LAST, Twin.FULL}) {
            Rig rig = new Rig("count: NONE for others");
            ready.make(rig.raft);
            rig.due("count(-1)", rig.raft.count(-1), -1);
            rig.due("count(14)", rig.raft.count(14), -1);
            for (int far : FAR) {
                rig.due("count(" + far + ")", rig.raft.count(far), -1);
            }
        }
    }

    /** The counts at their least and most. */
    private static void countsAtTheirEnds() {
        Rig rig = full("counts at their most");
        int[] want = {99, 99, 2, 8, 12, 0, 6, 0, 1, 255, 6, 20, 0, 400};
        for (int what = 0; what < want.length; what++) {
            rig.due("count(" + what + ")", rig.raft.count(what), want[what]);
        }
        rig.raft.seed(Integer.MAX_VALUE);
        rig.due("x at its most", rig.raft.count(12), Integer.MAX_VALUE);
        rig = Rig.on("pieces", "river 9 9;owner 9 0" + ";thing 0 0 0 0".repeat(8));
        rig.due("all by themselves", rig.raft.count(8), 8);
        for (int t = 0; t < 7; t++) {
            rig.raft.bind(t, t + 1, 1);
            rig.due("pieces", rig.raft.count(8), 7 - t);
        }
        rig.raft.bind(0, 7, 1);
        rig.due("a round", rig.raft.count(8), 1);
        rig = Rig.on("no pieces", "river 9 9;owner 1 0;owner 9 0;thing 0 0 0 0;thing 1 1 0 0");
        rig.raft.mile();
        rig.due("none on the river", rig.raft.count(9), 0);
        rig.due("pieces", rig.raft.count(8), 0);
        rig.due("things though", rig.raft.count(3), 2);
    }

    /** "(By what is asked nothing changes.)" */
    private static void nothingChangesByLooks() {
        Rig rig = new Rig("nothing changes by looks");
        for (Twin.Ready ready : new Twin.Ready[] {Twin.NEW, Twin.RICH, Twin.LAST, Twin.FULL}) {
            PartyRaft r = new PartyRaft();
            ready.make(r);
            for (int what = -1; what <= 14; what++) {
                int w = what;
                Twin.nothing(rig, ready, "count(" + w + ")", s -> s.count(w), r.count(w));
            }
            for (int i : new int[] {-1, 0, 2, 12}) {
                Twin.nothing(rig, ready, "owner(" + i + ", 3)", s -> s.owner(i, 3), r.owner(i, 3));
                Twin.nothing(rig, ready, "thing(" + i + ", 5)", s -> s.thing(i, 5), r.thing(i, 5));
                Twin.nothing(rig, ready, "rope(" + i + ", 2)", s -> s.rope(i, 2), r.rope(i, 2));
                Twin.nothing(rig, ready, "rapid(" + i + ")", s -> s.rapid(i), r.rapid(i));
                Twin.nothing(rig, ready, "margin(" + i + ")", s -> s.margin(i), r.margin(i));
            }
        }
    }
}
