/** Promises 11 to 16: miles, things bound, cut, sawn off and pushed, and all of it undone. */
public final class ActTest {
    public static void main(String[] args) {
        soaking();
        breaking();
        landing();
        sinking();
        lastMile();
        binding();
        cutting();
        sawing();
        pushing();
        undoing();
        twenty();
        Rig.close();
    }

    private static void soaking() {
        Rig rig = Rig.on("soaking", "river 9 0;owner 9 0;thing 0 0 10 4;thing 0 0 5 0;thing 0 0 3 9");
        PartyRaft r = rig.raft;
        int[][] want = {{6, 5, 0}, {2, 5, 0}, {0, 5, 0}, {0, 5, 0}};
        for (int[] floats : want) {
            rig.due("mile", r.mile(), 0);
            for (int t = 0; t < 3; t++) {
                rig.due("float of " + t, r.thing(t, 2), floats[t]);
            }
        }
        rig.due("mile", r.count(7), 4);
    }

    private static void breaking() {
        Rig rig = Rig.on("breaking", "river 9 10;owner 9 0;thing 0 0 9 0;thing 0 0 9 0;thing 0 0 9 0;thing 0 0 9 0;"
            + "bound 0 1 3;bound 1 2 5;bound 2 3 4;bound 0 3 9;rapid 2 5");
        PartyRaft r = rig.raft;
        r.mile();
        rig.due("no rapid", r.count(4), 4);
        r.mile();
        rig.due("of less strength", r.count(4), 2);
        rig.due("as much is enough", r.rope(0, 2), 5);
        rig.due("in their order", r.rope(1, 2), 9);
        rig.due("not in store", r.count(1), 10);
    }

    private static void landing() {
        Rig rig = Rig.on("landing", "river 9 10;owner 2 1;owner 9 1;owner 2 1;owner 2 3;thing 0 0 9 1;thing 1 0 9 1;thing 0 0 9 1;"
            + "thing 2 0 9 1;bound 0 1 3;bound 0 2 2;bound 2 3 4;bound 1 3 1;rapid 2 2");
        PartyRaft r = rig.raft;
        r.mile();
        rig.due("mile", r.mile(), 0);
        int[] fates = {1, 0, 1, 1};
        for (int o = 0; o < 4; o++) {
            rig.due("owner " + o, r.owner(o, 2), fates[o]);
        }
        int[] places = {1, 0, 1, 1};
        for (int t = 0; t < 4; t++) {
            rig.due("thing " + t, r.thing(t, 4), places[t]);
        }
        // the rope of strength 1 broke ahead of the landing; the others are in store again, each once
        rig.due("store", r.count(1), 10 + 3 + 2 + 4);
        rig.due("ropes", r.count(4), 0);
        rig.due("who landed rides none", r.owner(0, 3), -1);
        r.mile();
        rig.due("what landed soaks no more", r.thing(0, 2), 7);
        rig.due("what floats soaks", r.thing(1, 2), 6);
    }

    private static void sinking() {
        // owner 0 rides 0 and 1, which sink for the owner's weight; thing 4 floats on without its owner
        Rig rig = Rig.on("sinking", "river 9 10;owner 3 5;owner 9 1;owner 9 0;thing 0 5 9 0;thing 0 5 5 0;thing 1 3 4 0;thing 1 9 8 0;"
            + "thing 0 0 0 0;bound 0 1 3;bound 2 3 2");
        PartyRaft r = rig.raft;
        rig.due("margin", r.margin(0), -1);
        rig.due("margin", r.margin(2), -1);
        rig.due("mile", r.mile(), 4);
        rig.due("wet", r.owner(0, 2), 2);
        rig.due("wet", r.owner(1, 2), 2);
        rig.due("rides none, so is dry", r.owner(2, 2), 0);
        rig.due("on the river", r.count(9), 16);
        rig.due("ropes are gone", r.count(4), 0);
        rig.due("not in store", r.count(1), 10);
        rig.due("mile", r.mile(), 0);
        rig.due("mile", r.mile(), 0);
        rig.due("who is wet does not land", r.owner(0, 2), 2);
        rig.due("nor do their things", r.thing(4, 4), 0);
        // margin 0 floats; a piece that lost its bearers by a landing sinks at that mile
        rig = Rig.on("sinking", "river 9 10;owner 2 0;owner 9 4;thing 0 0 9 0;thing 1 5 9 0;thing 1 6 0 0;bound 0 1 1;bound 1 2 1");
        rig.due("mile", rig.raft.mile(), 0);
        rig.due("mile", rig.raft.mile(), 2);
        rig.due("store", rig.raft.count(1), 11);
        rig = Rig.on("sinking", "river 9 10;owner 9 4;thing 0 5 9 0");
        rig.due("mile", rig.raft.mile(), 0);
    }

    private static void lastMile() {
        Rig rig = Rig.on("last mile", "river 2 0;owner 2 0;thing 0 0 0 0");
        PartyRaft r = rig.raft;
        rig.due("mile", r.mile(), 0);
        rig.due("mile", r.mile(), 0);
        rig.due("behind the last", r.mile(), -1);
        rig.due("mile", r.count(7), 2);
        rig.due("acts", r.count(11), 2);
        rig.due("landed at the last", r.thing(0, 4), 1);
    }

    private static void binding() {
        Rig rig = Rig.on("binding", "river 9 10;owner 1 0;owner 9 0;thing 0 0 0 0;thing 1 0 0 0;thing 1 0 0 0;thing 1 9 0 0;thing 1 0 0 0");
        PartyRaft r = rig.raft;
        rig.due("strength 0", r.bind(1, 2, 0), -1);
        rig.due("strength 10", r.bind(1, 2, 10), -1);
        rig.due("itself", r.bind(1, 1, 1), -1);
        rig.due("no such thing", r.bind(1, 5, 1), -1);
        rig.due("no such thing", r.bind(-1, 1, 1), -1);
        rig.due("acts", r.count(11), 0);
        rig.due("greater first", r.bind(2, 1, 7), 0);
        rig.due("lesser", r.rope(0, 0), 1);
        rig.due("greater", r.rope(0, 1), 2);
        rig.due("store", r.count(1), 3);
        rig.due("again", r.bind(1, 2, 1), -1);
        rig.due("again", r.bind(2, 1, 1), -1);
        rig.due("too little rope", r.bind(0, 1, 4), -1);
        rig.due("all rope", r.bind(0, 1, 3), 1);
        rig.due("store", r.count(1), 0);
        rig.due("no rope", r.bind(0, 2, 1), -1);
        rig.due("mile", r.mile(), 1);
        rig.due("what landed", r.bind(0, 2, 1), -1);
        rig.due("what sank", r.bind(3, 2, 1), -1);
        rig.due("store", r.count(1), 3);
        rig.due("bound", r.bind(4, 2, 2), 1);
        // twelve ropes at most
        rig = Rig.on("twelve ropes", "river 9 99;owner 9 0" + ";thing 0 0 0 0".repeat(6));
        int n = 0;
        for (int a = 0; a < 6; a++) {
            for (int b = a + 1; b < 6; b++) {
                rig.due("bind " + a + " " + b, rig.raft.bind(a, b, 1), n < 12 ? n : -1);
                n++;
            }
        }
        rig.due("store", rig.raft.count(1), 87);
    }

    private static void cutting() {
        Rig rig = Rig.on("cutting", "river 9 99;owner 9 0;thing 0 0 0 0;thing 0 0 0 0;thing 0 0 0 0;bound 0 1 9;bound 1 2 4;bound 0 2 2");
        PartyRaft r = rig.raft;
        rig.due("no such rope", r.cut(3), -1);
        rig.due("no such rope", r.cut(-1), -1);
        rig.due("cut", r.cut(1), 103);
        rig.due("the next has its number", r.rope(1, 2), 2);
        rig.due("cut", r.cut(0), 112);
        rig.due("cut", r.cut(0), 114);
        rig.due("cut", r.cut(0), -1);
        rig.due("acts", r.count(11), 3);
        rig.due("nothing sinks by that", r.count(9), 7);
    }

    private static void sawing() {
        Rig rig = Rig.on("sawing", "river 9 7;owner 9 0;thing 0 0 0 0;thing 0 9 0 0;thing 0 0 9 0;bound 0 1 9;bound 1 2 4;bound 0 2 2");
        PartyRaft r = rig.raft;
        rig.due("no such thing", r.saw(3), -1);
        rig.due("no such thing", r.saw(-1), -1);
        rig.due("acts", r.count(11), 0);
        rig.due("saw", r.saw(1), 2);
        rig.due("store", r.count(1), 7);
        rig.due("rope left", r.rope(0, 2), 2);
        rig.due("saw again", r.saw(1), 0);
        rig.due("acts", r.count(11), 2);
        rig.due("nothing sinks till the next mile", r.thing(1, 4), 0);
        rig.due("mile", r.mile(), 1);
        rig.due("what sank", r.saw(1), -1);
    }

    private static void pushing() {
        Rig rig = Rig.on("pushing", "river 9 7;owner 9 0;owner 1 0;owner 5 0;thing 0 0 0 0;thing 1 0 0 0;thing 2 1 0 0");
        PartyRaft r = rig.raft;
        rig.due("to whom it is", r.push(0, 0), -1);
        rig.due("no such owner", r.push(0, 3), -1);
        rig.due("no such owner", r.push(0, -1), -1);
        rig.due("no such thing", r.push(3, 0), -1);
        rig.due("no such thing", r.push(-1, 0), -1);
        rig.due("acts", r.count(11), 0);
        rig.due("push", r.push(0, 2), 0);
        rig.due("push", r.push(0, 1), 2);
        rig.due("owner", r.thing(0, 0), 1);
        rig.due("mile", r.mile(), 1);
        rig.due("landed with the new owner", r.thing(0, 4), 1);
        rig.due("what landed", r.push(0, 0), -1);
        rig.due("what sank", r.push(2, 0), -1);
    }

    private static void undoing() {
        Rig rig = Rig.on("undoing", "river 9 9;owner 1 0;owner 2 3;thing 0 2 9 1;thing 1 3 1 1;thing 1 0 5 2;bound 0 1 4;bound 1 2 6;rapid 1 5");
        PartyRaft r = rig.raft;
        rig.due("nothing", r.undo(), -2);
        r.mile();
        rig.due("mile", r.count(7), 1);
        rig.due("landed", r.thing(0, 4), 1);
        rig.due("sunk", r.thing(1, 4), 2);
        rig.due("wet", r.owner(1, 2), 2);
        rig.due("sinks", r.sinks(1), 1);
        rig.due("undo", r.undo(), 0);
        rig.due("mile", r.count(7), 0);
        rig.due("on the river", r.count(9), 7);
        rig.due("aboard", r.owner(0, 2), 0);
        rig.due("aboard", r.owner(1, 2), 0);
        rig.due("float", r.thing(0, 2), 9);
        rig.due("ropes", r.count(4), 2);
        rig.due("store", r.count(1), 9);
        r.push(0, 1);
        r.cut(0);
        r.bind(0, 2, 9);
        r.saw(2);
        r.offer(1, 2, 3);
        r.seed(9);
        rig.due("undo saw", r.undo(), 3);
        rig.due("ropes", r.count(4), 2);
        rig.due("undo bind", r.undo(), 2);
        rig.due("store", r.count(1), 13);
        rig.due("undo cut", r.undo(), 1);
        rig.due("store", r.count(1), 9);
        rig.due("rope 0 again", r.rope(0, 2), 4);
        rig.due("undo push", r.undo(), 0);
        rig.due("owner", r.thing(0, 0), 0);
        rig.due("offers are no acts", r.count(10), 1);
        rig.due("x is no act", r.count(12), 9);
        rig.due("nothing", r.undo(), -2);
    }

    private static void twenty() {
        Rig rig = Rig.on("twenty", "river 40 9;owner 40 0;thing 0 0 99 1");
        PartyRaft r = rig.raft;
        for (int i = 1; i <= 33; i++) {
            r.mile();
            rig.due("acts", r.count(11), Math.min(i, 20));
        }
        for (int i = 19; i >= 5; i--) {
            rig.due("undo", r.undo(), i);
            rig.due("float", r.thing(0, 2), 99 - 13 - i);
        }
        r.saw(0);
        r.saw(0);
        rig.due("acts", r.count(11), 7);
        for (int i = 6; i >= 0; i--) {
            rig.due("undo", r.undo(), i);
        }
        rig.due("mile", r.count(7), 13);
        rig.due("none", r.undo(), -2);
        rig.due("mile", r.count(7), 13);
    }
}
