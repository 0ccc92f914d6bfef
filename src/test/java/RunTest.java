/** Promise 17: miles by a rule. */
public final class RunTest {
    /** Two things: float 7 + 10 (soak 1 + 2), weight 3 + 4, owners with landings 8 and 5. */
    private static final String PAIR = "river 9 6;owner 8 0;owner 5 0;thing 0 3 7 1;thing 1 4 10 2";

    public static void main(String[] args) {
        words();
        arithmetic();
        tests();
        clauses();
        greatest();
        onTheRiver();
        manyRules();
        ropeAndRopes();
        miles();
        refusals();
        noUndo();
        Rig.close();
    }

    /** Whether a rule binds the two things of a river ahead of its first mile. */
    private static boolean binds(String river, String rule) {
        PartyRaft raft = new PartyRaft();
        Rig.tell(raft, river);
        raft.river();
        Rig.tell(raft, rule);
        if (raft.rule() != 0) {
            return false;
        }
        int ropes = raft.count(4);
        raft.run(0, 1, 1);
        return raft.count(4) > ropes;
    }

    private static void holds(String test, boolean want) {
        new Rig("test").due(test, binds(PAIR, "tie 1 if " + test) ? 1 : 0, want ? 1 : 0);
        // so that a rule that is refused can't pass for a test that does not hold
        new Rig("test").due("not [" + test + "]", binds(PAIR, "tie 1 if not [" + test + "]") ? 1 : 0, want ? 0 : 1);
    }

    private static void words() {
        holds("one=0", true);
        holds("other=1", true);
        holds("float=17", true);
        holds("weight=7", true);
        holds("soak=3", true);
        holds("same=0", true);
        holds("apart=1", true);
        holds("ropes=0", true);
        holds("store=6", true);
        holds("mile=0", true);
        holds("landing=5", true);
        holds("left=2", true);
        Rig rig = Rig.on("words later", "river 9 60;owner 9 0;owner 1 0;owner 4 0;thing 0 0 50 1;thing 1 0 0 0;thing 2 0 50 3;thing 0 0 50 0;"
            + "thing 2 9 0 0;bound 0 3 5;bound 2 3 5");
        rig.raft.mile();
        // thing 1 landed, thing 4 sank; of those left only 0 and 2 are not bound
        rig.rule("tie 1 if one=0 and other=2 and float=49+47 and weight=0 and soak=4 and same=0 and apart=0 and ropes=2"
            + " and store=60 and mile=1 and landing=4 and left=3");
        rig.due("run", rig.raft.run(0, 1, 9), 0);
        rig.due("bound", rig.raft.rope(2, 1), 2);
        rig.due("store", rig.raft.count(1), 51);
        rig = Rig.on("same", "river 9 60;owner 9 0;thing 0 0 0 0;thing 0 0 0 0");
        rig.rule("tie 1 if same=1");
        rig.raft.run(0, 1, 1);
        rig.due("bound", rig.raft.count(4), 1);
    }

    private static void arithmetic() {
        holds("2+3*4=14", true);
        holds("2*3+4=10", true);
        holds("10-3-2=5", true);
        holds("100/5/2=10", true);
        holds("100/7*7=98", true);
        holds("7%4*2=6", true);
        holds("2*7%4=2", true);
        holds("1-2*3+10/3=0-2", true);
        holds("7/0=0", true);
        holds("7%0=0", true);
        holds("7/mile+7%mile=0", true);
        holds("0-7<0", true);
        holds("1+2+3+4*5-6/2*3=17", true);
        // a term has no sign of its own, so only what wraps around is below 0 ahead of a / or %
        String big = "65536*65536*65536*32768";
        holds(big + "<0", true);
        holds(big + "-1>0", true);
        holds(big + "/65536=0-65536*65536*32768", true);
        holds(big + "*2=0", true);
        holds(big + "%99999=0-" + (1L << 62) % 99999 * 2 % 99999, true);
        holds("99999*99999=9999*99999+90000*99999", true);
    }

    private static void tests() {
        holds("1<2", true);
        holds("2<2", false);
        holds("2<=2", true);
        holds("3<=2", false);
        holds("2=2", true);
        holds("2=3", false);
        holds("2>=2", true);
        holds("1>=2", false);
        holds("3>2", true);
        holds("2>2", false);
        holds("not 1=2", true);
        holds("not not 1=2", false);
        holds("1=1 or 1=1 and 1=2", true);
        holds("1=2 and 1=1 or 1=1", true);
        holds("[1=1 or 1=1] and 1=2", false);
        holds("not 1=1 or 1=1", true);
        holds("not [1=1 or 1=1]", false);
        holds("not 1=2 and 1=2", false);
        holds("1=2 or 1=2 or 1=1", true);
        holds("1=1 and 1=1 and 1=2", false);
        holds("1=2 or 1=1 and 1=1 or 1=2", true);
        holds("1=1 and [1=2 or [1=1 and not 1=2]]", true);
    }

    private static void worth(String rule, boolean want) {
        new Rig("worth").due(rule, binds(PAIR, rule) ? 1 : 0, want ? 1 : 0);
    }

    private static void clauses() {
        worth("tie 1", true);
        worth("tie 0", false);
        worth("tie 0-1", false);
        worth("tie 1 if 1=2", false);
        worth("tie 1 if 1=2;tie 1", true);
        worth("tie 0 if 1=1;tie 1", false);
        worth("tie 0;tie 1", false);
        worth("tie 0 if 1=2;tie 0 if 1=2;tie 1 if 1=1;tie 0", true);
        worth("tie 65536*65536*65536*32768-1", true);
        worth("tie 65536*65536*65536*32768", false);
    }

    private static void pair(String river, String rule, int one, int other) {
        Rig rig = Rig.on("greatest by " + rule, river);
        rig.rule(rule);
        rig.raft.run(0, 1, 1);
        int rope = rig.raft.count(4) - 1;
        rig.due("one", rig.raft.rope(rope, 0), one);
        rig.due("other", rig.raft.rope(rope, 1), other);
    }

    private static void greatest() {
        String four = "river 9 9;owner 9 0;thing 0 5 50 0;thing 0 9 50 0;thing 0 2 50 0;thing 0 9 50 0";
        pair(four, "tie 1", 0, 1);
        pair(four, "tie weight", 1, 3);
        pair(four, "tie 99-weight", 0, 2);
        pair(four, "tie weight if one=0", 0, 1);
        pair(four, "tie one*10+other", 2, 3);
        pair(four, "tie other", 0, 3);
        pair(four + ";bound 3 1 1", "tie weight", 0, 1);
        pair(four + ";bound 0 1 1;bound 0 2 1", "tie apart", 0, 3);
        pair(four + ";bound 0 1 1;bound 0 2 1", "tie 2-apart", 1, 2);
    }

    private static void onTheRiver() {
        Rig rig = Rig.on("on the river", "river 9 9;owner 1 0;owner 9 0;thing 0 9 50 0;thing 1 9 0 0;thing 1 0 50 0;thing 1 0 50 0");
        rig.due("0 lands, 1 sinks", rig.raft.mile(), 1);
        rig.rule("tie weight+1");
        rig.raft.run(0, 1, 1);
        rig.due("one", rig.raft.rope(0, 0), 2);
        rig.due("other", rig.raft.rope(0, 1), 3);
        rig.raft.run(0, 1, 1);
        rig.due("no more than these", rig.raft.count(4), 1);
        rig = Rig.on("one left", "river 9 9;owner 9 0;thing 0 9 0 0;thing 0 0 50 0");
        rig.rule("tie mile");
        rig.due("run", rig.raft.run(0, 2, 1), 1);
        rig.due("none", rig.raft.count(4), 0);
        String star = "river 9 9;owner 9 0" + ";thing 0 0 50 0".repeat(6) + ";bound 0 1 1;bound 0 2 1;bound 0 3 1;bound 3 4 1";
        pair(star, "tie 9 if ropes=4", 0, 4);
        pair(star, "tie 9 if ropes=3", 0, 5);
        pair(star, "tie 9 if ropes=0 or ropes=2 and one>0", 1, 2);
        pair(star, "tie 9-ropes", 1, 5);
    }

    private static void manyRules() {
        Rig rig = Rig.on("many rules", PAIR);
        for (int i = 0; i < 9; i++) {
            rig.rule("tie 0" + "+0".repeat(50) + " if 1=2;tie 0+");
        }
        for (int i = 0; i < 5; i++) {
            rig.due("rule", rig.rule("tie 0" + "*0".repeat(50) + "+" + i + " if store=6;tie 9"), i);
        }
        rig.due("rule", rig.rule("tie 1 if 1=2"), 5);
        rig.raft.run(5, 1, 1);
        rig.due("a test that does not hold is the last clause", rig.raft.count(4), 0);
        rig.raft.run(0, 1, 1);
        rig.due("worth 0", rig.raft.count(4), 0);
        rig.raft.run(4, 1, 1);
        rig.due("worth 4", rig.raft.count(4), 1);
    }

    private static void ropeAndRopes() {
        Rig rig = Rig.on("rope", "river 9 5;owner 9 0;thing 0 0 0 0;thing 0 0 0 0;thing 0 0 0 0;thing 0 0 0 0");
        rig.rule("tie 1");
        rig.due("run", rig.raft.run(0, 3, 2), 0);
        rig.due("one a mile, while there is rope", rig.raft.count(4), 2);
        rig.due("second is the next", rig.raft.rope(1, 1), 2);
        rig.due("store", rig.raft.count(1), 1);
        rig.due("as much as there is", rig.raft.run(0, 1, 1), 0);
        rig.due("ropes", rig.raft.count(4), 3);
        rig = Rig.on("ropes", "river 30 99;owner 30 0" + ";thing 0 0 0 0".repeat(6));
        rig.rule("tie 1");
        rig.due("run", rig.raft.run(0, 11, 1), 0);
        rig.due("eleven", rig.raft.count(4), 11);
        rig.due("run", rig.raft.run(0, 5, 1), 0);
        rig.due("twelve", rig.raft.count(4), 12);
        rig.due("store", rig.raft.count(1), 87);
    }

    private static void miles() {
        // tied ahead of the mile, thing 1 floats by thing 0 till that lands at mile 3
        Rig rig = Rig.on("miles", "river 9 5;owner 3 0;owner 9 0;thing 0 0 9 0;thing 1 5 0 0;rapid 2 1");
        rig.rule("tie 1");
        rig.due("run 2", rig.raft.run(0, 2, 1), 0);
        rig.due("mile", rig.raft.count(7), 2);
        rig.due("run 1", rig.raft.run(0, 1, 1), 1);
        rig.due("landed", rig.raft.thing(0, 4), 1);
        rig.due("sunk", rig.raft.thing(1, 4), 2);
        rig.due("store", rig.raft.count(1), 5);
        rig.due("nothing on the river", rig.raft.run(0, 6, 1), 0);
        // broken by the rapid at each mile of its force, and bound anew ahead of the next
        rig = Rig.on("rapids", "river 9 9;owner 9 0;thing 0 0 9 0;thing 0 5 6 0;rapid 1 3;rapid 2 9");
        rig.rule("tie 1");
        rig.due("run", rig.raft.run(0, 3, 2), 0);
        rig.due("store", rig.raft.count(1), 3);
        rig.due("ropes", rig.raft.count(4), 1);
        // sunk at different miles, all counted
        rig = Rig.on("sunk", "river 9 9;owner 9 0;thing 0 1 2 1;thing 0 1 3 1;thing 0 1 0 1;thing 0 1 99 1");
        rig.rule("tie 0");
        rig.due("run", rig.raft.run(0, 9, 1), 3);
    }

    private static void refusals() {
        Rig rig = new Rig("refusals");
        PartyRaft r = rig.raft;
        rig.rule("tie 1");
        rig.due("no river", r.run(0, 1, 1), -1);
        rig.river(PAIR);
        r.saw(0);
        rig.due("no such rule", r.run(1, 1, 1), -1);
        rig.due("no such rule", r.run(-1, 1, 1), -1);
        rig.due("no mile", r.run(0, 0, 1), -1);
        rig.due("fewer miles", r.run(0, -1, 1), -1);
        rig.due("too many miles", r.run(0, 10, 1), -1);
        rig.due("far too many miles", r.run(0, Integer.MAX_VALUE, 1), -1);
        rig.due("no strength", r.run(0, 1, 0), -1);
        rig.due("too much strength", r.run(0, 1, 10), -1);
        rig.due("mile", r.count(7), 0);
        rig.due("nothing happened: an act can still be undone", r.count(11), 1);
        rig.due("all miles, without so much rope: 1 sinks at mile 4, 0 at mile 5", r.run(0, 9, 9), 2);
        rig.due("behind the last", r.run(0, 1, 1), -1);
    }

    private static void noUndo() {
        Rig rig = Rig.on("no undo", PAIR);
        PartyRaft r = rig.raft;
        rig.rule("tie 1");
        r.mile();
        r.saw(0);
        rig.due("acts", r.count(11), 2);
        r.run(0, 1, 1);
        rig.due("acts", r.count(11), 0);
        rig.due("undo", r.undo(), -2);
        r.mile();
        rig.due("undo", r.undo(), 0);
        rig.due("mile", r.count(7), 2);
        rig.due("rope", r.count(4), 1);
        rig.due("undo", r.undo(), -2);
    }
}
