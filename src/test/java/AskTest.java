/** Promises 18 to 28: what can be asked. */
public final class AskTest {
    public static void main(String[] args) {
        ahead();
        sinks();
        bearers();
        plan();
        planRefusals();
        sawn();
        locks();
        delta();
        weak();
        offers();
        take();
        game();
        Rig.close();
    }

    private static void ahead() {
        // mile 1: 2 sinks (owner 1 rides the piece of 1); mile 2: owner 0 lands with 0; mile 3: 1 sinks with owner 1
        Rig rig = Rig.on("ahead", "river 5 9;owner 2 0;owner 5 3;thing 0 1 9 0;thing 1 2 7 1;thing 1 9 0 0;thing 0 1 1 0;bound 0 3 5;rapid 3 9");
        PartyRaft r = rig.raft;
        int[][] want = {{15, 0, 0, 0}, {11, 0, 4, 0}, {2, 9, 4, 0}, {0, 9, 6, 2}, {0, 9, 6, 2}, {0, 9, 6, 2}};
        for (int n = 0; n <= 5; n++) {
            for (int what = 0; what < 4; what++) {
                rig.due("ahead(" + n + ", " + what + ")", r.ahead(n, what), want[n][what]);
            }
            rig.due("ahead(" + n + ", 4)", r.ahead(n, 4), -1);
            rig.due("ahead(" + n + ", -1)", r.ahead(n, -1), -1);
        }
        rig.due("ahead(6, 0)", r.ahead(6, 0), -1);
        rig.due("ahead(-1, 0)", r.ahead(-1, 0), -1);
        r.mile();
        r.mile();
        rig.due("those of before too", r.ahead(0, 2), 4);
        rig.due("those of before too", r.ahead(1, 1), 9);
        rig.due("miles left", r.ahead(3, 2), 6);
        rig.due("not more", r.ahead(4, 2), -1);
        rig = Rig.on("wet", "river 5 9;owner 5 1;owner 5 0;owner 5 1;thing 0 0 0 0;thing 1 0 0 0;thing 2 0 0 0");
        rig.due("nobody yet", rig.raft.ahead(0, 3), 0);
        rig.due("the first and the last", rig.raft.ahead(1, 3), 5);
        rig.due("by what is asked nothing changes", rig.raft.ahead(0, 0), 7);
    }

    private static void sinks() {
        Rig rig = Rig.on("sinks", "river 6 9;owner 2 0;owner 6 3;thing 0 1 9 0;thing 1 2 7 1;thing 1 9 0 0;thing 0 1 1 0;thing 1 0 0 0");
        PartyRaft r = rig.raft;
        int[] want = {-2, 3, 1, -2, -2};
        for (int miles = 0; miles < 4; miles++) {
            for (int t = 0; t < want.length; t++) {
                rig.due("sinks(" + t + ") at mile " + miles, r.sinks(t), want[t]);
            }
            r.mile();
        }
        rig.due("no such thing", r.sinks(5), -1);
        rig.due("no such thing", r.sinks(-1), -1);
        // an act can help
        r.undo();
        r.undo();
        rig.due("mile", r.count(7), 2);
        rig.due("sinks", r.sinks(1), 3);
        r.undo();
        r.bind(1, 0, 1);
        r.push(0, 1);
        rig.due("floats by thing 0", r.sinks(1), -2);
    }

    private static void bearers() {
        Rig rig = Rig.on("bearers", "river 6 9;owner 1 20;owner 6 20;thing 1 9 0 0;thing 1 0 5 0;thing 1 0 4 0;thing 1 0 9 0;thing 1 2 11 0;"
            + "thing 1 50 40 0;thing 0 0 99 0");
        PartyRaft r = rig.raft;
        rig.due("of several the least", r.bearers(1, 1), 8);
        rig.due("one", r.bearers(1, 0), 1);
        r.mile();
        rig.due("6 landed, 0 and 5 sank", r.count(9), 30);
        r.undo();
        rig.due("two weigh", r.bearers(33, 0), 1);
        rig.due("two weigh", r.bearers(33, 1), 64);
        r.push(6, 1);
        rig.due("none to be borne", r.bearers(0, 0), 0);
        rig.due("none to be borne", r.bearers(0, 1), 0);
        rig.due("floats by itself", r.bearers(8, 0), 0);
        rig.due("with one that floats", r.bearers(9, 0), 0);
        rig.due("with some", r.bearers(3, 1), 4);
        rig.due("not on the river", r.bearers(128, 0), -1);
        rig.due("all bits", r.bearers(-1, 0), -1);
        rig.due("what 2", r.bearers(1, 2), -1);
        rig.due("what -1", r.bearers(1, -1), -1);
        rig = Rig.on("bearers", "river 6 9;owner 6 20;thing 0 9 0 0;thing 0 0 5 0;thing 0 0 3 0;thing 0 0 4 0");
        rig.due("two of three: 1 and 3", rig.raft.bearers(1, 1), 10);
        rig.due("two", rig.raft.bearers(1, 0), 2);
        rig = Rig.on("bearers", "river 6 9;owner 6 20;thing 0 9 0 0;thing 0 0 5 0;thing 0 0 3 0");
        rig.due("there are none", rig.raft.bearers(1, 0), -2);
        rig.due("there are none", rig.raft.bearers(1, 1), -2);
        rig.due("there are none", rig.raft.bearers(7, 0), -2);
        rig = Rig.on("bearers on the river, as they are now", "river 6 9;owner 6 0;owner 1 0;thing 0 9 50 0;thing 1 0 99 0;thing 0 5 9 4;thing 0 50 0 0");
        rig.due("by what lands", rig.raft.bearers(8, 1), 2);
        rig.due("float now", rig.raft.bearers(4, 1), 0);
        rig.raft.mile();
        rig.due("3 sank, 1 landed", rig.raft.count(9), 5);
        rig.due("what sank", rig.raft.bearers(8, 1), -1);
        rig.due("float now", rig.raft.bearers(4, 1), 0);
        rig.raft.undo();
        rig.raft.bind(0, 2, 1);
        rig.raft.mile();
        rig.raft.mile();
        rig.due("float then", rig.raft.thing(2, 2), 1);
        rig.due("not by what landed", rig.raft.bearers(4, 1), 1);
        rig = Rig.on("not by what landed", "river 6 9;owner 1 0;owner 6 0;thing 0 0 99 0;thing 1 50 0 0;thing 1 9 9 9;thing 1 0 99 0;bound 2 3 1");
        rig.due("by what lands", rig.raft.bearers(4, 0), 0);
        rig.due("by what lands", rig.raft.bearers(2, 1), 1);
        rig.raft.mile();
        rig.due("by what is left", rig.raft.bearers(4, 1), 8);
        rig = Rig.on("bearers", "river 6 9");
        rig.due("no things", rig.raft.bearers(0, 0), 0);
    }

    private static void row(Rig rig, int rows, int... first) {
        rig.due("rows", rig.raft.plan(-1), rows);
        for (int i = 0; i < 7; i++) {
            rig.due("place " + i, rig.raft.plan(i), i < first.length ? first[i] : -2);
        }
    }

    private static void plan() {
        String owners = "river 9 9;owner 3 20;owner 6 20;owner 9 20";
        row(Rig.on("one owner", owners + ";thing 0 1 1 0;thing 0 0 0 0;thing 0 0 0 0"), 6, 0, 1, 2);
        // those of owner 1 together: 3! times 2!
        row(Rig.on("two owners", owners + ";thing 1 0 9 0;thing 0 0 9 0;thing 1 0 9 0;thing 0 0 9 0"), 12, 0, 2, 1, 3);
        // 2 and 4 together, and these with 0 and 3
        row(Rig.on("three owners", owners + ";thing 1 0 9 0;thing 0 0 9 0;thing 2 0 9 0;thing 1 0 9 0;thing 2 0 9 0"),
            2 * 6 * 2, 0, 2, 4, 3, 1);
        row(Rig.on("one alone", owners + ";thing 2 0 0 0"), 1, 0);
        row(Rig.on("none", owners), 1);
        row(Rig.on("too heavy now", owners + ";thing 0 1 0 0"), 0);
        row(Rig.on("too heavy later", owners + ";thing 0 0 9 0;thing 1 1 0 0"), 0);
        row(Rig.on("soaked by then", owners + ";thing 0 0 9 0;thing 1 5 11 2"), 2, 0, 1);
        row(Rig.on("soaked too much", owners + ";thing 0 0 9 0;thing 1 6 11 2"), 0);
        row(Rig.on("not below 0", owners + ";thing 1 3 3 0;thing 0 0 9 0;thing 1 0 1 9"), 4, 0, 2, 1);
        row(Rig.on("who lands is not asked", owners + ";thing 0 9 9 9"), 1, 0);
        String seven = owners + ";thing 0 0 9 0".repeat(7);
        row(Rig.on("seven", seven), 5040, 0, 1, 2, 3, 4, 5, 6);
        row(Rig.on("at the next mile", "river 9 9;owner 1 0;owner 2 0;thing 1 0 9 0;thing 0 0 9 0;thing 1 0 9 0"), 4, 0, 2, 1);
        row(Rig.on("at the next mile", "river 9 9;owner 1 0;owner 2 0;thing 1 3 9 7;thing 0 0 9 0"), 0);
        row(Rig.on("three landings, told late", "river 9 9;owner 9 0;owner 8 0;owner 1 0;thing 0 0 9 0;thing 2 0 9 0;thing 1 0 9 0;thing 0 0 9 0"),
            8, 0, 3, 2, 1);
        // later: a landing that is behind, and a thing given to who landed
        Rig rig = Rig.on("later", owners + ";thing 0 0 9 0;thing 1 0 9 0;thing 1 0 9 0;thing 2 0 9 0;thing 2 0 99 0;bound 0 4 1;bound 3 4 1;bound 1 4 1;bound 2 4 1");
        rig.due("miles", rig.raft.mile() + rig.raft.mile() + rig.raft.mile(), 0);
        row(rig, 12, 1, 2, 3, 4);
        rig.raft.push(2, 0);
        row(rig, 12, 1, 2, 3, 4);
        rig.raft.push(1, 0);
        row(rig, 24, 1, 2, 3, 4);
    }

    private static void planRefusals() {
        String owners = "river 9 9;owner 1 0;owner 9 0";
        Rig rig = Rig.on("eight", owners + ";thing 1 0 9 0".repeat(7) + ";thing 0 0 9 0");
        rig.due("eight", rig.raft.plan(-1), -3);
        rig.due("eight", rig.raft.plan(0), -3);
        rig.due("eight", rig.raft.plan(6), -3);
        rig.due("what 7", rig.raft.plan(7), -4);
        rig.due("what -2", rig.raft.plan(-2), -4);
        rig.raft.mile();
        rig.due("seven", rig.raft.plan(-1), 5040);
        rig.due("what 7", rig.raft.plan(7), -4);
    }

    private static void sawn(Rig rig, int things, int ropes, int set, int sets) {
        rig.due("sawn(" + things + ", 0)", rig.raft.sawn(things, 0), ropes);
        rig.due("sawn(" + things + ", 1)", rig.raft.sawn(things, 1), set);
        rig.due("sawn(" + things + ", 2)", rig.raft.sawn(things, 2), sets);
    }

    private static void sawn() {
        // 0 is heavy, 1 and 2 bear it, each alone would
        Rig rig = Rig.on("sawn", "river 9 9;owner 9 0;thing 0 5 0 0;thing 0 0 5 0;thing 0 0 5 0;bound 0 1 1;bound 0 2 1;bound 1 2 1");
        sawn(rig, 0, 0, 0, 6);
        sawn(rig, 1, 2, 3, 2);
        sawn(rig, 2, -2, -2, 0);
        sawn(rig, 7, -2, -2, 0);
        // the owner rides the piece with most things, of several that of the least thing
        rig = Rig.on("sawn with an owner", "river 9 9;owner 9 4;thing 0 0 3 0;thing 0 0 2 0;bound 0 1 1");
        sawn(rig, 0, 0, 0, 1);
        sawn(rig, 1, 1, 1, 1);
        sawn(rig, 3, -2, -2, 0);
        rig.due("not on the river", rig.raft.sawn(4, 0), -1);
        rig.due("all bits", rig.raft.sawn(-1, 0), -1);
        rig.due("what 3", rig.raft.sawn(0, 3), -1);
        rig.due("what -1", rig.raft.sawn(0, -1), -1);
        // of several sets of one rope the least; the second and third each would do, and both
        rig = Rig.on("the least", "river 9 9;owner 9 0;thing 0 5 0 0;thing 0 0 1 0;thing 0 0 4 0;bound 2 0 1;bound 1 0 1;bound 1 2 1");
        sawn(rig, 1, 2, 3, 2);
        // all of rope 0 and 1 bear: with one gone 0 and what still hangs on it sinks
        rig = Rig.on("the least", "river 9 9;owner 9 0;thing 0 5 0 0;thing 0 0 1 0;thing 0 0 4 0;bound 2 0 1;bound 1 0 1");
        sawn(rig, 5, 1, 2, 1);
        sawn(rig, 3, 1, 1, 1);
        sawn(rig, 1, 2, 3, 1);
        sawn(rig, 0, 0, 0, 1);
        // 1 sinks by owner 0, who rides it if 2 is not in one piece with 0: of 3, 6 and 7 the first
        rig = Rig.on("the least of several", "river 9 9;owner 9 7;owner 9 0;thing 1 3 5 0;thing 0 1 2 0;thing 0 0 8 0;thing 1 2 3 0;"
            + "bound 2 3 1;bound 0 2 1;bound 0 3 1");
        sawn(rig, 2, 2, 3, 3);
        // 0 sinks always; owner 1 rides it, and the others float, if one or both of the ropes are gone
        rig = Rig.on("the least of several", "river 9 9;owner 9 2;owner 9 5;thing 1 3 2 0;thing 1 3 3 0;thing 1 3 3 0;thing 0 1 3 0;"
            + "bound 1 3 1;bound 2 3 1");
        sawn(rig, 1, 1, 1, 3);
        sawn(rig, 15, 0, 0, 1);
        rig = Rig.on("other ropes", "river 9 9;owner 9 0;thing 0 5 0 0;thing 0 0 5 0;thing 0 0 5 0;bound 1 2 1;bound 0 1 1;bound 0 2 1");
        sawn(rig, 1, 2, 6, 2);
        sawn(rig, 0, 0, 0, 6);
        rig = Rig.on("no things", "river 9 9");
        sawn(rig, 0, 0, 0, 1);
    }

    private static void way(Rig rig, int room, int fewest, int... way) {
        rig.due("locks(" + room + ", 0)", rig.raft.locks(room, 0), fewest);
        for (int i = 0; i < 8; i++) {
            rig.due("locks(" + room + ", " + (i + 1) + ")", rig.raft.locks(room, i + 1), i < way.length ? way[i] : fewest == -2 ? -2 : -1);
        }
    }

    private static void locks() {
        Rig rig = Rig.on("locks", "river 9 9;owner 9 0;owner 1 0;thing 0 4 50 0;thing 1 50 50 0;thing 0 6 50 0;thing 0 5 50 0;thing 0 5 50 0;"
            + "thing 0 0 50 0;thing 0 50 0 0");
        way(rig, 49, -2);
        way(rig, 50, 3, 0, 1, 0, 0, 0, 0, 2);
        rig.raft.mile();
        // 4 and 6, 5 and 5: the first way that needs two; where all fit, one
        way(rig, 10, 2, 0, -1, 0, 1, 1, 0);
        way(rig, 9, 3, 0, -1, 1, 0, 2, 0);
        way(rig, 6, 4, 0, -1, 1, 2, 3, 0);
        way(rig, 5, -2);
        way(rig, 20, 1, 0, -1, 0, 0, 0, 0);
        way(rig, 200, 1, 0, -1, 0, 0, 0, 0);
        way(rig, 1, -2);
        rig.due("room 0", rig.raft.locks(0, 0), -1);
        rig.due("room 201", rig.raft.locks(201, 0), -1);
        rig.due("what 9", rig.raft.locks(10, 9), -1);
        rig.due("what -1", rig.raft.locks(10, -1), -1);
        // one by one into the first with room would need three
        rig = Rig.on("locks", "river 9 9;owner 9 0;thing 0 3 50 0;thing 0 3 50 0;thing 0 5 50 0;thing 0 4 50 0;thing 0 5 0 0");
        way(rig, 10, 2, 0, 0, 1, 0, 1);
        // 4 with 5 would come first, but needs three
        rig = Rig.on("not the first that fits", "river 9 9;owner 9 0;thing 0 4 50 0;thing 0 5 50 0;thing 0 6 50 0;thing 0 5 50 0");
        way(rig, 10, 2, 0, 1, 0, 1);
        way(rig, 11, 2, 0, 0, 1, 1);
        way(rig, 9, 3, 0, 0, 1, 2);
        way(rig, 10, 2, 0, 1, 0, 1);
        rig = Rig.on("eight by themselves", "river 9 9;owner 9 0" + ";thing 0 50 0 0".repeat(8));
        way(rig, 50, 8, 0, 1, 2, 3, 4, 5, 6, 7);
        way(rig, 99, 8, 0, 1, 2, 3, 4, 5, 6, 7);
        way(rig, 100, 4, 0, 0, 1, 1, 2, 2, 3, 3);
        way(rig, 200, 2, 0, 0, 0, 0, 1, 1, 1, 1);
    }

    private static void delta() {
        Rig rig = Rig.on("delta", "river 9 0;owner 9 0;thing 0 0 50 0;thing 0 50 50 0;thing 0 4 50 0;thing 0 14 50 0;thing 0 9 50 0");
        // 0 to 2: 1; 2 to 4: 2; 4 to 3: 2; 3 to 1: 1 + 36 / 5 = 8
        rig.due("rope", rig.raft.delta(0), 13);
        rig.due("binds", rig.raft.delta(1), 4);
        rig.due("what 2", rig.raft.delta(2), -1);
        rig.due("what -1", rig.raft.delta(-1), -1);
        rig = Rig.on("delta", "river 9 0;owner 9 0;thing 0 0 50 0;thing 0 50 50 0;thing 0 4 50 0;thing 0 14 50 0;thing 0 9 50 0;bound 1 2 3;bound 0 1 3");
        rig.due("ropes there are stay", rig.raft.delta(0), 4);
        rig.due("binds", rig.raft.delta(1), 2);
        rig = Rig.on("delta", "river 9 0;owner 9 0;thing 0 7 50 0");
        rig.due("one", rig.raft.delta(0), 0);
        rig.due("one", rig.raft.delta(1), 0);
        rig = Rig.on("delta", "river 9 0");
        rig.due("none", rig.raft.delta(0), 0);
        rig.due("none", rig.raft.delta(1), 0);
        rig = Rig.on("only what is on the river", "river 9 0;owner 9 0;thing 0 7 0 0;thing 0 7 7 0;thing 0 17 17 0");
        rig.due("rope", rig.raft.delta(0), 4);
        rig.raft.mile();
        rig.due("rope", rig.raft.delta(0), 3);
        rig.due("binds", rig.raft.delta(1), 1);
    }

    private static void weak() {
        // a round of 0, 1, 2; 3 hangs on 2; 4 on 3; 5 and 6 by themselves; 7 alone
        Rig rig = Rig.on("weak", "river 9 0;owner 9 0" + ";thing 0 0 9 0".repeat(8)
            + ";bound 0 1 1;bound 2 3 1;bound 1 2 1;bound 0 2 1;bound 4 3 1;bound 5 6 1");
        rig.due("ropes", rig.raft.weak(0), 2 + 16 + 32);
        rig.due("things", rig.raft.weak(1), 4 + 8);
        rig.due("what 2", rig.raft.weak(2), -1);
        rig.due("what -1", rig.raft.weak(-1), -1);
        rig.raft.cut(2);
        rig.due("ropes", rig.raft.weak(0), 31);
        rig.due("things", rig.raft.weak(1), 1 + 4 + 8);
        rig.raft.undo();
        rig.raft.cut(3);
        rig.due("ropes", rig.raft.weak(0), 31);
        rig.due("things", rig.raft.weak(1), 2 + 4 + 8);
        rig = Rig.on("weak", "river 9 0;owner 9 0");
        rig.due("none", rig.raft.weak(0), 0);
        rig.due("none", rig.raft.weak(1), 0);
    }

    private static void offers() {
        Rig rig = new Rig("offers");
        PartyRaft r = rig.raft;
        rig.due("no river", r.offer(0, 0, 0), -2);
        rig.due("none by that", r.offer(-1, -9, 99), 0);
        rig.river("river 9 0");
        rig.due("weight 51", r.offer(51, 0, 0), -2);
        rig.due("weight -2", r.offer(-2, 0, 0), -2);
        rig.due("float 100", r.offer(0, 100, 0), -2);
        rig.due("float -1", r.offer(0, -1, 0), -2);
        rig.due("soak 10", r.offer(0, 0, 10), -2);
        rig.due("soak -1", r.offer(0, 0, -1), -2);
        rig.due("offers", r.count(10), 0);
        rig.due("least", r.offer(0, 0, 0), 1);
        rig.due("most", r.offer(50, 99, 9), 2);
        for (int i = 3; i <= 6; i++) {
            rig.due("offer", r.offer(1, 1, 1), i);
        }
        rig.due("a seventh", r.offer(1, 1, 1), -2);
        rig.due("offers", r.count(10), 6);
        rig.due("acts", r.count(11), 0);
        rig.due("none", r.offer(-1, 5, 5), 0);
        rig.due("offers", r.count(10), 0);
        rig.due("offer", r.offer(1, 1, 1), 1);
    }

    private static void take(Rig rig, int thing, int offer, int miles) {
        rig.due("take(" + thing + ", 0)", rig.raft.take(thing, 0), offer);
        rig.due("take(" + thing + ", 1)", rig.raft.take(thing, 1), miles);
    }

    private static void take() {
        // 0 with 1: margin 9 + 8 - 4 - 3 - 2 = 8 with the owner, soaks 3 a mile
        Rig rig = Rig.on("take", "river 4 0;owner 2 2;owner 3 0;thing 0 4 9 1;thing 0 3 8 2;thing 1 1 0 0;thing 1 0 0 0;bound 0 1 1;rapid 1 9");
        PartyRaft r = rig.raft;
        take(rig, 0, -2, 3);
        take(rig, 1, -2, 3);
        take(rig, 2, -2, 0);
        take(rig, 3, -2, 100);
        r.offer(3, 3, 0);
        take(rig, 0, -2, 3);
        r.offer(0, 1, 0);
        // 9, 6, 3, 0
        take(rig, 0, 1, 4);
        take(rig, 2, 1, 100);
        r.offer(0, 1, 0);
        take(rig, 0, 1, 4);
        r.offer(0, 99, 9);
        // 107, less 3 and 9 a mile while there is some: 0 has 9 miles, 1 four, the offer eleven
        // at mile 10: 0 + 0 + 9 - 9 = 0; at 11: -9
        take(rig, 0, 3, 11);
        take(rig, 3, -2, 100);
        rig.due("what 2", r.take(0, 2), -1);
        rig.due("what -1", r.take(0, -1), -1);
        rig.due("no such thing", r.take(4, 0), -1);
        rig.due("no such thing", r.take(-1, 0), -1);
        rig.due("mile", r.mile(), 1);
        rig.due("what sank", r.take(2, 0), -1);
        r.offer(-1, 0, 0);
        r.offer(0, 1, 1);
        r.offer(0, 1, 1);
        // 3, 1, 0: what has soaked is 0, and no less
        take(rig, 0, -2, 3);
        take(rig, 1, -2, 2);
        r.offer(0, 2, 0);
        take(rig, 0, 2, 5);
        r.offer(-1, 0, 0);
        r.offer(0, 9, 0);
        take(rig, 0, 0, 100);
        r.offer(-1, 0, 0);
        // the rope broke; the owner rides thing 0: 8 - 4 - 2 = 2, soaks 1
        take(rig, 0, -2, 3);
        take(rig, 1, -2, 2);
    }

    private static void game(Rig rig, int thing, int wins, int by) {
        rig.due("game(" + thing + ", 0)", rig.raft.game(thing, 0), wins);
        rig.due("game(" + thing + ", 1)", rig.raft.game(thing, 1), by);
    }

    private static void game() {
        Rig rig = Rig.on("game", "river 9 0;owner 9 20;thing 0 0 1 0;thing 0 0 1 0;thing 0 0 1 0;thing 0 2 1 0;thing 0 9 0 0;thing 0 9 0 0;"
            + "bound 0 1 1;bound 1 2 1;bound 4 5 1");
        // three that can all be taken in any order: an odd number wins, by the least
        game(rig, 0, 1, 0);
        game(rig, 2, 1, 0);
        // one alone, though it doesn't float: none left is well
        game(rig, 3, 1, 3);
        // what is left would not float
        game(rig, 4, 0, -2);
        rig.due("what 2", rig.raft.game(0, 2), -1);
        rig.due("what -1", rig.raft.game(0, -1), -1);
        rig.due("no such thing", rig.raft.game(6, 0), -1);
        rig.due("no such thing", rig.raft.game(-1, 0), -1);
        rig.raft.mile();
        rig.due("what sank", rig.raft.game(4, 0), -1);
        // 0 bears 1: 0 can't go ahead of 1; two moves, who begins loses
        rig = Rig.on("game of two", "river 9 0;owner 9 0;thing 0 0 5 0;thing 0 5 0 0;bound 0 1 1");
        game(rig, 0, 0, -2);
        // 0 bears 1 or 2 but not both: first 1 or 2 goes, then the other (or not 0), then 0
        rig = Rig.on("game of three", "river 9 0;owner 9 0;thing 0 0 5 0;thing 0 5 0 0;thing 0 5 0 0;bound 0 1 1;bound 0 2 1");
        game(rig, 0, 1, 1);
        // what soaks has its float of now
        rig = Rig.on("game of what soaks", "river 9 0;owner 9 0;thing 0 5 5 5;thing 0 5 5 5;bound 0 1 1");
        game(rig, 0, 0, -2);
        rig = Rig.on("game of what soaks", "river 9 0;owner 9 0;thing 0 5 5 5;thing 0 0 0 0;thing 0 0 0 0;bound 0 1 1;bound 1 2 1");
        game(rig, 0, 1, 0);
        // 0 bears 1, 2 floats: after 2 the other two lose for who is to take; or 1, then 0 and 2 lose too
        rig = Rig.on("game of three", "river 9 0;owner 9 0;thing 0 0 5 0;thing 0 5 0 0;thing 0 0 0 0;bound 0 1 1;bound 0 2 1");
        game(rig, 2, 1, 1);
    }
}
