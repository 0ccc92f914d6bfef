/** Promises 6 to 10 and 31: owners, things, ropes, rapids, margins, counts. */
public final class LookTest {
    private static final String RIVER = "river 9 40;owner 3 2;owner 9 5;owner 4 7;owner 5 1;"
        + "thing 1 10 4 1;thing 0 3 9 0;thing 1 2 8 9;thing 0 5 5 2;thing 1 1 1 0;thing 3 0 6 0;"
        + "bound 4 2 7;bound 1 3 1;rapid 2 9;rapid 9 1";

    public static void main(String[] args) {
        looks();
        riding();
        margins();
        counts();
        Rig.close();
    }

    private static void looks() {
        Rig rig = Rig.on("looks", RIVER);
        PartyRaft r = rig.raft;
        int[][] owners = {{3, 2, 0, 1}, {9, 5, 0, 2}, {4, 7, 0, -1}, {5, 1, 0, 5}};
        for (int o = 0; o < owners.length; o++) {
            for (int what = 0; what < 4; what++) {
                rig.due("owner(" + o + ", " + what + ")", r.owner(o, what), owners[o][what]);
            }
            rig.due("owner(" + o + ", 4)", r.owner(o, 4), -1);
            rig.due("owner(" + o + ", -1)", r.owner(o, -1), -1);
        }
        rig.due("owner(4, 0)", r.owner(4, 0), -1);
        rig.due("owner(-1, 0)", r.owner(-1, 0), -1);
        int[][] things = {{1, 10, 4, 1, 0, 1}, {0, 3, 9, 0, 0, 10}, {1, 2, 8, 9, 0, 20}, {0, 5, 5, 2, 0, 10},
            {1, 1, 1, 0, 0, 20}, {3, 0, 6, 0, 0, 32}};
        for (int t = 0; t < things.length; t++) {
            for (int what = 0; what < 6; what++) {
                rig.due("thing(" + t + ", " + what + ")", r.thing(t, what), things[t][what]);
            }
            rig.due("thing(" + t + ", 6)", r.thing(t, 6), -1);
            rig.due("thing(" + t + ", -1)", r.thing(t, -1), -1);
        }
        rig.due("thing(6, 0)", r.thing(6, 0), -1);
        rig.due("thing(-1, 0)", r.thing(-1, 0), -1);
        int[][] ropes = {{2, 4, 7}, {1, 3, 1}};
        for (int i = 0; i < ropes.length; i++) {
            for (int what = 0; what < 3; what++) {
                rig.due("rope(" + i + ", " + what + ")", r.rope(i, what), ropes[i][what]);
            }
            rig.due("rope(" + i + ", 3)", r.rope(i, 3), -1);
            rig.due("rope(" + i + ", -1)", r.rope(i, -1), -1);
        }
        rig.due("rope(2, 0)", r.rope(2, 0), -1);
        rig.due("rope(-1, 0)", r.rope(-1, 0), -1);
        int[] rapids = {0, 0, 9, 0, 0, 0, 0, 0, 0, 1};
        for (int mile = 0; mile < rapids.length; mile++) {
            rig.due("rapid(" + mile + ")", r.rapid(mile), rapids[mile]);
        }
        rig.due("rapid(10)", r.rapid(10), -1);
        rig.due("rapid(-1)", r.rapid(-1), -1);
        rig.due("rapid(most)", r.rapid(Integer.MAX_VALUE), -1);
    }

    private static void riding() {
        // owner 0 has two things in each of two pieces, one piece has the least thing, which is owner 1's
        Rig rig = Rig.on("riding", "river 9 40;owner 9 1;owner 9 2;thing 1 0 9 0;thing 0 0 9 0;thing 0 0 9 0;thing 0 0 9 0;"
            + "thing 0 0 9 0;thing 0 0 9 0;bound 0 4 1;bound 4 5 1;bound 1 2 1");
        PartyRaft r = rig.raft;
        rig.due("of several the least thing", r.owner(0, 3), 0);
        rig.due("one thing", r.owner(1, 3), 0);
        rig.due("margin with both", r.margin(5), 27 - 1 - 2);
        rig.due("margin with none", r.margin(1), 18);
        r.bind(3, 2, 1);
        rig.due("most", r.owner(0, 3), 1);
        rig.due("margin", r.margin(3), 26);
        rig.due("margin", r.margin(0), 25);
        r.push(0, 0);
        rig.due("again the least", r.owner(0, 3), 0);
        rig.due("none of theirs", r.owner(1, 3), -1);
        rig.due("margin", r.margin(0), 26);
    }

    private static void margins() {
        Rig rig = Rig.on("margins", RIVER);
        PartyRaft r = rig.raft;
        int[] want = {-6, 6 - 2, 6 - 5, 6 - 2, 6 - 5, 6 - 1};
        for (int t = 0; t < want.length; t++) {
            rig.due("margin(" + t + ")", r.margin(t), want[t]);
        }
        rig.due("margin(6)", r.margin(6), -10000);
        rig.due("margin(-1)", r.margin(-1), -10000);
        rig.due("mile", r.mile(), 3);
        // thing 0, and 2 with 4 (8 - 9 is 0, and owner 1 rides) sank
        rig.due("margin(0)", r.margin(0), -10000);
        rig.due("margin(2)", r.margin(2), -10000);
        rig.due("piece of what sank", r.thing(2, 5), 0);
        rig.due("float of what sank", r.thing(2, 2), 0);
        rig.due("owner who is wet rides none", r.owner(1, 3), -1);
        rig.due("owner who is wet", r.owner(1, 2), 2);
        rig.due("margin(1)", r.margin(1), 9 + 3 - 8 - 2);
    }

    private static void counts() {
        Rig rig = Rig.on("counts", RIVER);
        PartyRaft r = rig.raft;
        rig.rule("tie 1");
        r.offer(1, 1, 1);
        r.offer(1, 1, 1);
        r.seed(2147483647);
        r.saw(0);
        r.feed(1, 2, 3, 4, 5);
        int[] want = {9, 40, 4, 6, 2, 2, 1, 0, 4, 63, 2, 1, 2147483647, 20};
        for (int what = 0; what < want.length; what++) {
            rig.due("count(" + what + ")", r.count(what), want[what]);
        }
        rig.due("count(-1)", r.count(-1), -1);
        rig.due("count(14)", r.count(14), -1);
        r.mile();
        rig.due("mile", r.count(7), 1);
        rig.due("pieces", r.count(8), 2);
        rig.due("on the river", r.count(9), 2 + 8 + 32);
        rig.due("things", r.count(3), 6);
        rig.due("ropes", r.count(4), 1);
        rig.due("rope 0 is that which is left", r.rope(0, 2), 1);
    }
}
