/** Promises 1 to 5: a new object, the tape, rivers and rules as texts, and their faults. */
public final class TextTest {
    private static final String START = "river 9 5;owner 3 1;owner 9 20;";

    public static void main(String[] args) {
        newObject();
        tape();
        bytes();
        rivers();
        riverFaults();
        riverLimits();
        riverReplaces();
        rules();
        ruleFaults();
        ruleDepth();
        ruleParts();
        sixRules();
        Rig.close();
    }

    private static void newObject() {
        Rig rig = new Rig("new object");
        for (int what = 0; what <= 13; what++) {
            rig.due("count(" + what + ")", rig.raft.count(what), 0);
        }
        rig.due("NONE", PartyRaft.NONE, -1);
        rig.due("run without a rule", rig.raft.run(0, 1, 1), -1);
        rig.due("back to what was never made", rig.raft.back(0), -1);
    }

    private static void tape() {
        Rig rig = new Rig("tape");
        PartyRaft r = rig.raft;
        for (int n = 20; n <= 400; n += 20) {
            rig.due("feed", r.feed(0, 0, 0, 0, 0), n);
        }
        rig.due("feed to 420", r.feed(0, 0, 0, 0, 0), -1);
        rig.due("count(13)", r.count(13), 400);
        rig.due("end(401)", r.end(401), -1);
        rig.due("end(-1)", r.end(-1), -1);
        rig.due("end(least)", r.end(Integer.MIN_VALUE), -1);
        rig.due("count(13)", r.count(13), 400);
        rig.due("end(400)", r.end(400), 400);
        rig.due("end(381)", r.end(381), 381);
        rig.due("feed to 401", r.feed(0, 0, 0, 0, 0), -1);
        rig.due("count(13)", r.count(13), 381);
        rig.due("end(380)", r.end(380), 380);
        rig.due("feed to 400", r.feed(0, 0, 0, 0, 0), 400);
        rig.due("end(0)", r.end(0), 0);
        rig.due("count(13)", r.count(13), 0);
        rig.due("end(1)", r.end(1), -1);
    }

    private static void bytes() {
        Rig rig = new Rig("bytes");
        // "rive" "r 2 " "0   ": the highest byte of each number comes first
        rig.due("feed", rig.raft.feed(0x72697665, 0x72203220, 0x30202020, 0x20202020, 0x20202020), 20);
        rig.due("river", rig.raft.river(), 0);
        rig.due("miles", rig.raft.count(0), 2);
        // what end cut off is gone, what comes next stands in its place
        rig.due("feed", rig.raft.feed(0x72697665, 0x72203358, 0x58585858, 0x58585858, 0x58585858), 20);
        rig.due("end", rig.raft.end(7), 7);
        rig.due("feed", rig.raft.feed(0x20343420, 0x20202020, 0x20202020, 0x20202020, 0x20202020), 27);
        rig.due("river 3 44", rig.raft.river(), 0);
        rig.due("store", rig.raft.count(1), 44);
        rig.due("a byte above 127", rig.river("river 3 4" + (char) 233), Rig.fault(9, 0));
        rig.due("a byte 0", rig.river("river 3 4" + (char) 0), Rig.fault(9, 0));
    }

    private static void rivers() {
        Rig rig = new Rig("rivers");
        rig.due("least", rig.river("river 2 0"), 0);
        rig.due("most", rig.river("river 99 99"), 0);
        rig.due("miles", rig.raft.count(0), 99);
        rig.due("blanks", rig.river("   river   7  3 ;owner7 20;  thing 0 50 99 9  ; rapid7 9   "), 1);
        rig.due("miles", rig.raft.count(0), 7);
        rig.due("landing", rig.raft.owner(0, 0), 7);
        rig.due("rapid", rig.raft.rapid(7), 9);
        rig.due("five digits", rig.river("river 00009 00000;owner 00001 00000"), 0);
        rig.due("miles", rig.raft.count(0), 9);
        rig.due("bound as told, greater first", rig.river(START + "thing 0 1 2 3;thing 1 4 5 6;bound 1 0 9"), 2);
        rig.due("lesser", rig.raft.rope(0, 0), 0);
        rig.due("greater", rig.raft.rope(0, 1), 1);
        rig.due("rapids at the last miles", rig.river("river 99 0;rapid 98 8;rapid 99 9"), 0);
        rig.due("rapid", rig.raft.rapid(98), 8);
        rig.due("rapid", rig.raft.rapid(99), 9);
        rig.due("rapid", rig.raft.rapid(100), -1);
        rig.due("owner told late", rig.river("river 5 5;rapid 1 1;owner 5 0;thing 0 0 0 0;owner 1 0"), 1);
    }

    private static void fault(Rig rig, String text, int place, int kind) {
        rig.due("river(" + text + ")", rig.river(text), Rig.fault(place, kind));
        rig.due("tape after " + text, rig.raft.count(13), 0);
        rig.due("miles after " + text, rig.raft.count(0), 2);
    }

    private static void riverFaults() {
        Rig rig = Rig.on("river faults", "river 2 1;owner 1 1");
        fault(rig, "", 0, 0);
        fault(rig, "    ", 4, 0);
        fault(rig, "river", 5, 0);
        fault(rig, "river 5", 7, 0);
        fault(rig, "river 5 ", 8, 0);
        fault(rig, "river 5 5;", 10, 0);
        fault(rig, "river 5 5; ", 11, 0);
        fault(rig, "river 5 5;;", 10, 0);
        fault(rig, "river 5 5 5", 10, 0);
        fault(rig, "river 5 5 123456", 10, 0);
        fault(rig, "river 5 5 owner", 10, 0);
        fault(rig, "River 5 5", 0, 0);
        fault(rig, "riverowner 5 5", 0, 0);
        fault(rig, "rive 5 5", 0, 0);
        fault(rig, "river -5 5", 6, 0);
        fault(rig, "river x 5", 6, 0);
        fault(rig, "river 1 5", 6, 1);
        fault(rig, "river 100 5", 6, 1);
        fault(rig, "river 000005 5", 6, 1);
        fault(rig, "river 5 100", 8, 1);
        fault(rig, "river 5 000000", 8, 1);
        fault(rig, "river 5 99999999999999999999", 8, 1);
        fault(rig, "  owner 1 1;river 5 5", 2, 4);
        fault(rig, "tie 1", 0, 0);
        fault(rig, "river 5 5; river 5 5", 11, 4);
        fault(rig, "river 5 5;owner 0 0", 16, 1);
        fault(rig, "river 5 5;owner 6 0", 16, 1);
        fault(rig, "river 5 5;owner 5 21", 18, 1);
        fault(rig, "river 5 5;owner 5", 17, 0);
        fault(rig, START + "thing 2 1 1 1", 37, 1);
        fault(rig, START + "thing 1 51 1 1", 39, 1);
        fault(rig, START + "thing 1 1 100 1", 41, 1);
        fault(rig, START + "thing 1 1 1 10", 43, 1);
        fault(rig, START + "thing 1 1 1", 42, 0);
        String two = START + "thing 0 1 1 1;thing 1 1 1 1;";
        fault(rig, two + "bound 2 0 1", 65, 1);
        fault(rig, two + "bound 0 2 1", 67, 1);
        fault(rig, two + "bound 1 1 1", 67, 1);
        fault(rig, two + "bound 0 1 0", 69, 1);
        fault(rig, two + "bound 0 1 10", 69, 1);
        fault(rig, two + "bound 0 1 9;bound 0 1 9", 79, 1);
        fault(rig, "river 5 5;bound 0 1 9", 16, 1);
        fault(rig, "river 5 5;rapid 0 1", 16, 1);
        fault(rig, "river 5 5;rapid 6 1", 16, 1);
        fault(rig, "river 5 5;rapid 5 0", 18, 1);
        fault(rig, "river 5 5;rapid 5 10", 18, 1);
        fault(rig, "river 5 5;rapid 5 1;rapid 5 x", 26, 1);
        rig.due("owner stays", rig.raft.count(2), 1);
    }

    private static void riverLimits() {
        Rig rig = Rig.on("river limits", "river 2 1");
        String text = "river 9 5";
        for (int i = 0; i < 6; i++) {
            text += ";owner 1 1";
        }
        rig.due("six owners", rig.river(text), 0);
        rig.due("seven owners", rig.river(text + "; owner 1 1"), Rig.fault(text.length() + 2, 4));
        rig.due("a word that is none there", rig.river(text + ";owners 1 1"), Rig.fault(text.length() + 1, 0));
        for (int i = 0; i < 8; i++) {
            text += ";thing 5 0 0 0";
        }
        rig.due("eight things", rig.river(text), 8);
        rig.due("nine things", rig.river(text + ";thing x"), Rig.fault(text.length() + 1, 4));
        String ropes = "river 9 5;owner 1 1";
        for (int i = 0; i < 6; i++) {
            ropes += ";thing 0 0 0 0";
        }
        int told = 0;
        for (int a = 0; a < 6; a++) {
            for (int b = a + 1; b < 6 && told < 12; b++) {
                ropes += ";bound " + a + " " + b + " 1";
                told++;
            }
        }
        rig.due("twelve ropes", rig.river(ropes), 6);
        rig.due("ropes", rig.raft.count(4), 12);
        rig.due("thirteen ropes", rig.river(ropes + ";bound 4 5 1"), Rig.fault(ropes.length() + 1, 4));
        String rapids = "river 9 5";
        for (int i = 1; i < 7; i++) {
            rapids += ";rapid " + i + " 1";
        }
        rig.due("six rapids", rig.river(rapids), 0);
        rig.due("rapids", rig.raft.count(5), 6);
        rig.due("seven rapids", rig.river(rapids + ";rapid 7 1"), Rig.fault(rapids.length() + 1, 4));
    }

    private static void riverReplaces() {
        Rig rig = Rig.on("river in place of another", "river 5 9;owner 2 1;thing 0 1 9 0;thing 0 1 9 0;bound 0 1 3;rapid 2 4");
        PartyRaft r = rig.raft;
        rig.rule("tie 1");
        r.seed(77);
        r.offer(1, 1, 1);
        r.mile();
        r.saw(0);
        rig.due("river", rig.river("river 4 3;owner 4 2"), 0);
        int[] want = {4, 3, 1, 0, 0, 0, 1, 0, 0, 0, 0, 0, 77, 0};
        for (int what = 0; what < want.length; what++) {
            rig.due("count(" + what + ")", r.count(what), want[what]);
        }
        rig.due("undo", r.undo(), -2);
        rig.due("rapid 2", r.rapid(2), 0);
        rig.due("thing 0", r.thing(0, 0), -1);
        rig.due("rope 0", r.rope(0, 0), -1);
        rig.due("owner 0", r.owner(0, 0), 4);
        // an owner who was wet, and a thing that sank, are forgotten
        rig.river("river 4 3;owner 4 2;thing 0 9 0 0");
        rig.due("mile", r.mile(), 1);
        rig.due("wet", r.owner(0, 2), 2);
        rig.river("river 4 3;owner 4 2;thing 0 9 99 0");
        rig.due("aboard", r.owner(0, 2), 0);
        rig.due("on the river", r.thing(0, 4), 0);
        rig.due("does not sink", r.sinks(0), -2);
    }

    private static void rules() {
        Rig rig = new Rig("rules");
        rig.due("shortest", rig.rule("tie 0"), 0);
        rig.due("close together", rig.rule("tie1if1=1and1<=2or[not one>other]"), 1);
        rig.due("all words", rig.rule("tie one+other+float+weight+soak+same+apart+ropes+store+mile+landing+left"), 2);
        rig.due("blanks", rig.rule("  tie  1 +  99999 if not  [ 1 >= 1 ]  ;  tie  2  "), 3);
        rig.due("twelve clauses", rig.rule("tie 1" + ";tie 1".repeat(11)), 4);
        rig.due("rules", rig.raft.count(6), 5);
        rig.due("no river by these", rig.raft.count(0), 0);
    }

    private static void ruleFault(Rig rig, String text, int place, int kind) {
        rig.due("rule(" + text + ")", rig.rule(text), Rig.fault(place, kind));
        rig.due("tape after " + text, rig.raft.count(13), 0);
        rig.due("rules after " + text, rig.raft.count(6), 0);
    }

    private static void ruleFaults() {
        Rig rig = new Rig("rule faults");
        ruleFault(rig, "", 0, 0);
        ruleFault(rig, "  ", 2, 0);
        ruleFault(rig, "river 2 0", 0, 0);
        ruleFault(rig, "tie if 1=1", 4, 0);
        ruleFault(rig, "tie 1;", 6, 0);
        ruleFault(rig, "tie 1;;tie 1", 6, 0);
        ruleFault(rig, "tie 1 2", 6, 0);
        ruleFault(rig, "tie 1 222222", 6, 0);
        ruleFault(rig, "tie 1+", 6, 0);
        ruleFault(rig, "tie -1", 4, 0);
        ruleFault(rig, "tie 1--1", 6, 0);
        ruleFault(rig, "tie [1]", 4, 0);
        ruleFault(rig, "tie 1=1", 5, 0);
        ruleFault(rig, "tie 1 iff 1=1", 6, 0);
        ruleFault(rig, "tie 1 and 1=1", 6, 0);
        ruleFault(rig, "tie 1 if 1", 10, 0);
        ruleFault(rig, "tie 1 if 1 and 1=1", 11, 0);
        ruleFault(rig, "tie 1 if 1=1=1", 12, 0);
        ruleFault(rig, "tie 1 if 1=<1", 11, 0);
        ruleFault(rig, "tie 1 if 1< =1", 12, 0);
        ruleFault(rig, "tie 1 if 1<>1", 11, 0);
        ruleFault(rig, "tie 1 if 1==1", 11, 0);
        ruleFault(rig, "tie 1 if not", 12, 0);
        ruleFault(rig, "tie 1 if notone=1", 9, 0);
        ruleFault(rig, "tie 1 if 1=not 1=1", 11, 0);
        ruleFault(rig, "tie 1 if [1=1", 13, 0);
        ruleFault(rig, "tie 1 if [1=1;tie 1", 13, 0);
        ruleFault(rig, "tie 1 if [1=1]]", 14, 0);
        ruleFault(rig, "tie 1 if []", 10, 0);
        ruleFault(rig, "tie 1 if [1]=1", 11, 0);
        ruleFault(rig, "tie 1 if 1=1 or", 15, 0);
        ruleFault(rig, "tie 1 if 1=1 xor 1=1", 13, 0);
        ruleFault(rig, "tie 1 if 1=1 if 1=1", 13, 0);
        ruleFault(rig, "tie floats", 4, 0);
        ruleFault(rig, "tie tie", 4, 0);
        ruleFault(rig, "tie onez", 4, 0);
        ruleFault(rig, "tie aone", 4, 0);
        ruleFault(rig, "tie one`", 7, 0);
        ruleFault(rig, "tie one{", 7, 0);
        ruleFault(rig, "tie 1:", 5, 0);
        ruleFault(rig, "tie on", 4, 0);
        ruleFault(rig, "tie 1a", 5, 0);
        ruleFault(rig, "tie oneA", 7, 0);
        ruleFault(rig, "tie 123456", 4, 1);
        ruleFault(rig, "tie 000001", 4, 1);
        ruleFault(rig, "tie 1 if 1=123456", 11, 1);
        ruleFault(rig, "tie 1" + "; tie 1".repeat(12), 5 + 7 * 11 + 2, 4);
        ruleFault(rig, "tie 1" + ";tie 1".repeat(11) + ";ties 1", 72, 0);
        ruleFault(rig, "tie 1" + ";tie 1".repeat(11) + ";", 72, 0);
    }

    private static void ruleDepth() {
        Rig rig = new Rig("depth");
        ruleFault(rig, "tie 1 if " + "[".repeat(11) + "1=1", 19, 2);
        ruleFault(rig, "tie 1 if " + "not ".repeat(11) + "1=1", 49, 2);
        ruleFault(rig, "tie 1 if " + "not[".repeat(5) + "not 1=1", 29, 2);
        ruleFault(rig, "tie 1 if " + "not[".repeat(5) + " [1=1", 30, 2);
        ruleFault(rig, "tie 1 if " + "[".repeat(10) + "1=1" + "]".repeat(9), 31, 0);
        rig.due("ten brackets", rig.rule("tie 1 if " + "[".repeat(10) + "1=1" + "]".repeat(10)), 0);
        rig.due("ten nots", rig.rule("tie 1 if " + "not ".repeat(10) + "1=1"), 1);
        rig.due("five of each", rig.rule("tie 1 if " + "not[".repeat(5) + "1=1" + "]".repeat(5)), 2);
        rig.due("one beside another", rig.rule("tie 1 if " + "[not 1=1] and not[1=1] or ".repeat(6) + "not [1=2]"), 3);
    }

    private static void ruleParts() {
        Rig rig = new Rig("parts");
        ruleFault(rig, "tie 1" + "+1".repeat(60), 4 + 120, 3);
        ruleFault(rig, "tie 1" + "+1".repeat(59) + "+x", 4 + 120, 0);
        ruleFault(rig, "tie 1" + "+1".repeat(59) + "+123456", 4 + 120, 1);
        ruleFault(rig, "tie 1" + "+1".repeat(59) + ";tie left", 4 + 120 + 4, 3);
        // 59 values of the sum, one of the fact, and its sign is the 61st
        ruleFault(rig, "tie 1" + "+1".repeat(58) + " if 1<=1", 4 + 117 + 5, 3);
        ruleFault(rig, "tie 1" + "+1".repeat(57) + " if 1 <= 1", 4 + 115 + 9, 3);
        // 15 facts of three and a sum of 15 are 60
        String facts = "tie 1" + "+1".repeat(14) + " if 1=1" + " and 1=1".repeat(14);
        ruleFault(rig, facts + "+1", facts.length() + 1, 3);
        rig.due("sixty values", rig.rule("tie 1" + "+1".repeat(59)), 0);
        rig.due("sixty of both", rig.rule(facts), 1);
        rig.due("sixty in two clauses", rig.rule("tie 1" + "+1".repeat(28) + ";tie 1" + "+1".repeat(30)), 2);
    }

    private static void sixRules() {
        Rig rig = new Rig("six rules");
        for (int i = 0; i < 6; i++) {
            rig.due("rule", rig.rule("tie 1"), i);
        }
        rig.due("a seventh", rig.rule("tie 1"), -1);
        rig.due("the tape stays", rig.raft.count(13), 5);
        rig.due("a seventh that is wrong", rig.rule(";x"), -1);
        rig.due("the tape stays", rig.raft.count(13), 7);
        rig.due("six", rig.raft.count(6), 6);
    }
}
