/**
 * The document's sentences on what is too small or too large, empty or full, or refused, each with a
 * test of its own: promises 1 to 5 and part I. of the terms.
 */
public final class EdgeTextTest {
    private static final int[] FAR = {Integer.MIN_VALUE, Integer.MIN_VALUE + 1, -401, -2, Integer.MAX_VALUE};
    private static final String THREE = "river 7 5;owner 1 1;owner 7 1;thing 0 1 1 1;thing 1 2 2 2;thing 0 3 3 3;";

    public static void main(String[] args) {
        noRiverNoRules();
        feedAtMost400();
        feedHighestFirst();
        endHasNotSoMany();
        endFirstBytesAlone();
        bytesCutOffAreNotRead();
        riverOf400Bytes();
        riverNumbers();
        riverOnceAndFirst();
        toldYetOrNot();
        asManyAsThereCanBe();
        allOnTheRiverAtMile0();
        riverInPlaceOfAnother();
        riverFaultAllStays();
        endBehindTheLastByte();
        bytesOfARiver();
        wordsOfARiver();
        ruleFaultAllStays();
        ruleThereAreSix();
        ruleOf400Bytes();
        ruleClauses();
        ruleNumbers();
        ruleWords();
        bytesOfARule();
        signs();
        blanks();
        depth();
        sixtyValuesAndFacts();
        ofOnePlaceTheLeast();
        theFirstAlongTheText();
        Rig.close();
    }

    private static int fault(int place, int kind) {
        return Rig.fault(place, kind);
    }

    // ---- Promises 1 to 3 ----

    /** "No RIVER, no RULES." */
    private static void noRiverNoRules() {
        Rig rig = new Rig("a new object has no river, no rules");
        for (int what = 0; what < 14; what++) {
            rig.due("count(" + what + ")", rig.raft.count(what), 0);
        }
        for (int k = 0; k < 4; k++) {
            rig.due("back(" + k + ")", rig.raft.back(k), -1);
        }
        for (int rule = -1; rule < 7; rule++) {
            rig.due("run(" + rule + ")", rig.raft.run(rule, 1, 1), -1);
        }
        rig.due("an empty tape is no river", rig.raft.river(), fault(0, 0));
        rig.due("an empty tape is no rule", rig.raft.rule(), fault(0, 0));
        rig.due("NONE", PartyRaft.NONE, -1);
    }

    /** "how many it has; NONE, and none comes, if it would have more than 400." */
    private static void feedAtMost400() {
        Rig rig = new Rig("feed: none comes, if it would have more than 400");
        for (int n = 1; n <= 20; n++) {
            rig.due("feed", rig.raft.feed(-1, -1, -1, -1, -1), 20 * n);
        }
        Twin.nothing(rig, Twin.FULL, "feed to a tape of 400", r -> r.feed(1, 2, 3, 4, 5), -1);
        for (int had = 381; had < 400; had++) {
            int n = had;
            Twin.Ready ready = r -> {
                Twin.FULL.make(r);
                r.end(n);
            };
            Twin.nothing(rig, ready, "feed to a tape of " + n, r -> r.feed(0x3b3b3b3b, 0x3b3b3b3b, 0x3b3b3b3b, 0x3b3b3b3b, 0x3b3b3b3b), -1);
        }
        PartyRaft r = rig.raft;
        rig.due("end(380)", r.end(380), 380);
        rig.due("feed to a tape of 380", r.feed(0, 0, 0, 0, 0), 400);
        rig.due("end(379)", r.end(379), 379);
        rig.due("feed to a tape of 379", r.feed(0, 0, 0, 0, 0), 399);
        rig.due("feed to a tape of 399", r.feed(0, 0, 0, 0, 0), -1);
        rig.due("count(13)", r.count(13), 399);
        rig.due("end(0)", r.end(0), 0);
        rig.due("feed to an empty tape", r.feed(0, 0, 0, 0, 0), 20);
    }

    /** "Twenty bytes come behind the TAPE, of each number the highest first" */
    private static void feedHighestFirst() {
        Rig rig = new Rig("feed: twenty bytes, of each number the highest first");
        String text = "river 12 34;owner 12";
        rig.due("feed", rig.raft.feed(0x72697665, 0x72203132, 0x2033343b, 0x6f776e65, 0x72203132), 20);
        rig.due("feed behind it", rig.raft.feed(0x20323020, 0x20202020, 0x20202020, 0x20202020, 0x20202020), 40);
        rig.due(text, rig.raft.river(), 0);
        rig.due("miles", rig.raft.count(0), 12);
        rig.due("store", rig.raft.count(1), 34);
        rig.due("landing", rig.raft.owner(0, 0), 12);
        rig.due("weight", rig.raft.owner(0, 1), 20);
        // each place of a number by itself: the byte that is odd there is the first fault
        for (int place = 0; place < 20; place++) {
            int[] n = {0x20202020, 0x20202020, 0x20202020, 0x20202020, 0x20202020};
            n[place / 4] ^= (0x20 ^ 0xff) << 8 * (3 - place % 4);
            rig.due("feed", rig.raft.feed(n[0], n[1], n[2], n[3], n[4]), 20);
            rig.due("byte 255 at " + place, rig.raft.river(), fault(place, 0));
        }
        rig.due("least numbers", rig.raft.feed(Integer.MIN_VALUE, Integer.MIN_VALUE, -1, Integer.MAX_VALUE, 0), 20);
        rig.due("byte 128", rig.raft.river(), fault(0, 0));
    }

    /** "n; NONE, and nothing happens, if it has not so many, or n is below 0." */
    private static void endHasNotSoMany() {
        Rig rig = new Rig("end: nothing happens, if it has not so many, or n is below 0");
        for (Twin.Ready ready : new Twin.Ready[] {Twin.NEW, Twin.RICH, Twin.LAST, Twin.FULL}) {
            PartyRaft r = new PartyRaft();
            ready.make(r);
            int has = r.count(13);
            Twin.nothing(rig, ready, "end at " + has, s -> s.end(has), has);
            Twin.nothing(rig, ready, "end one behind " + has, s -> s.end(has + 1), -1);
            Twin.nothing(rig, ready, "end(-1)", s -> s.end(-1), -1);
            for (int n : FAR) {
                Twin.nothing(rig, ready, "end(" + n + ")", s -> s.end(n), -1);
            }
        }
    }

    /** "The TAPE has its first n bytes alone: n" */
    private static void endFirstBytesAlone() {
        Rig rig = new Rig("end: the first n bytes alone");
        for (int n = 400; n >= 0; n--) {
            if (n == 400) {
                for (int i = 0; i < 20; i++) {
                    rig.raft.feed(0x20202020, 0x20202020, 0x20202020, 0x20202020, 0x20202020);
                }
            }
            rig.due("end(" + n + ")", rig.raft.end(n), n);
        }
        rig.due("count(13)", rig.raft.count(13), 0);
        rig = new Rig("end: the first n bytes alone");
        Rig.tell(rig.raft, "river 5 59");
        rig.due("end(9)", rig.raft.end(9), 9);
        rig.due("what was cut off does not come back", rig.raft.end(10), -1);
        rig.due("river 5 5", rig.raft.river(), 0);
        rig.due("store", rig.raft.count(1), 5);
        Rig.tell(rig.raft, "river 5 5");
        rig.raft.end(8);
        Rig.tell(rig.raft, "7;owner 2 2");
        rig.due("river 5 7;owner 2 2", rig.raft.river(), 0);
        rig.due("store", rig.raft.count(1), 7);
        rig.due("owners", rig.raft.count(2), 1);
    }

    /** "its first n bytes alone": a text that was cut is read as if the rest had never come. */
    private static void bytesCutOffAreNotRead() {
        String river = "river 12 34;owner 11 12;owner 10 3;thing 1 45 67 8;thing 0 0 0 0;bound 0 1 7;rapid 10 9  ;rapid 11 1";
        String rule = "tie 123*left+one if not [ 12<=34 and weight>=5 or 1<= 2 ] and 7>=6;tie soak  ";
        for (int n = 0; n <= river.length(); n++) {
            Rig whole = new Rig("a river cut at " + n);
            Rig part = new Rig("a river of " + n);
            Rig.tell(whole.raft, river);
            whole.raft.end(n);
            whole.due("river()", whole.raft.river(), part.river(river.substring(0, n)));
            for (int what = 0; what < 14; what++) {
                whole.due("count(" + what + ")", whole.raft.count(what), part.raft.count(what));
            }
        }
        for (int n = 0; n <= rule.length(); n++) {
            Rig whole = new Rig("a rule cut at " + n);
            Rig part = new Rig("a rule of " + n);
            Rig.tell(whole.raft, rule);
            whole.raft.end(n);
            whole.due("rule()", whole.raft.rule(), part.rule(rule.substring(0, n)));
            whole.due("count(6)", whole.raft.count(6), part.raft.count(6));
        }
        // a sign of two bytes whose second was cut off
        Rig rig = new Rig("a sign cut in two");
        Rig.tell(rig.raft, "tie 1 if 1<=1");
        rig.raft.end(11);
        rig.due("rule()", rig.raft.rule(), fault(11, 0));
    }

    // ---- Promise 4, and the language of a river ----

    /** "A RIVER is a text of at most 400 bytes" */
    private static void riverOf400Bytes() {
        Rig rig = new Rig("a river of 400 bytes");
        rig.due("400 bytes", rig.river("river 5 1;owner 5 1" + " ".repeat(370) + ";rapid 5 1 "), 0);
        rig.due("rapid", rig.raft.rapid(5), 1);
        String late = "river 5 " + " ".repeat(390) + "42";
        rig.due("the last two bytes are a number", rig.river(late), 0);
        rig.due("store", rig.raft.count(1), 42);
        String blank = " ".repeat(391) + "river 5 7";
        rig.due("the first 391 are blanks", rig.river(blank), 0);
        rig.due("store", rig.raft.count(1), 7);
        rig.due("400 blanks", rig.river(" ".repeat(400)), fault(400, 0));
        rig.due("a fault at the last byte", rig.river("river 5 7" + " ".repeat(390) + "x"), fault(399, 0));
        rig.due("a clause that has no room", rig.river("river 5 7" + " ".repeat(390) + ";"), fault(400, 0));
    }

    /** A number stands at #: least and most are well, one less and one more are not, nor are six digits. */
    private static void number(String name, String text, int least, int most) {
        Rig rig = new Rig(name);
        int place = text.indexOf('#');
        int[] well = {least, most, (least + most) / 2};
        for (int n : well) {
            rig.due(text + " with " + n, rig.river(text.replace("#", "" + n)) >= 0 ? 1 : 0, 1);
            String five = String.format("%05d", n);
            rig.due(text + " with " + five, rig.river(text.replace("#", five)) >= 0 ? 1 : 0, 1);
            rig.due(text + " with 0" + five, rig.river(text.replace("#", "0" + five)), fault(place, 1));
        }
        if (least > 0) {
            rig.due(text + " with " + (least - 1), rig.river(text.replace("#", "" + (least - 1))), fault(place, 1));
        }
        for (String n : new String[] {"" + (most + 1), "99999", "100000", "4294967296", "4294967297", "18446744073709551617"}) {
            rig.due(text + " with " + n, rig.river(text.replace("#", n)), fault(place, 1));
        }
        rig.due(text + " without it", rig.river(text.substring(0, place)), fault(place, 0));
        rig.due(text + " with -1", rig.river(text.replace("#", "-1")), fault(place, 0));
        rig.due(text + " with +1", rig.river(text.replace("#", "+1")), fault(place, 0));
        rig.due(text + " with a word", rig.river(text.replace("#", "one")), fault(place, 0));
    }

    /** The bounds of all numbers of a river; "1 a NUMBER of more digits, or not as told" */
    private static void riverNumbers() {
        number("its MILES, 2 to 99", "river # 5", 2, 99);
        number("ROPE in store, 0 to 99", "river 5 #", 0, 99);
        number("LANDING: a MILE from 1 on", "river 7 5;owner # 3", 1, 7);
        number("LANDING: a MILE from 1 on", "river 99 5;owner # 3", 1, 99);
        number("LANDING: a MILE from 1 on", "river 2 5;owner # 3", 1, 2);
        number("of an OWNER WEIGHT 0 to 20", "river 7 5;owner 7 #", 0, 20);
        number("an OWNER that was told", "river 7 5;owner 1 1;owner 1 1;thing # 1 1 1", 0, 1);
        number("an OWNER that was told", "river 7 5" + ";owner 1 1".repeat(6) + ";thing # 1 1 1", 0, 5);
        number("of a THING WEIGHT 0 to 50", "river 7 5;owner 1 1;thing 0 # 1 1", 0, 50);
        number("FLOAT 0 to 99", "river 7 5;owner 1 1;thing 0 1 # 1", 0, 99);
        number("SOAK 0 to 9", "river 7 5;owner 1 1;thing 0 1 1 #", 0, 9);
        number("STRENGTH 1 to 9", THREE + "bound 0 1 #", 1, 9);
        number("a RAPID: a MILE from 1 on", "river 7 5;rapid # 1", 1, 7);
        number("a RAPID: a MILE from 1 on", "river 99 5;rapid # 1", 1, 99);
        number("FORCE 1 to 9", "river 7 5;rapid 1 #", 1, 9);
        Rig rig = new Rig("two THINGS that were told");
        int place = THREE.length() + 6;
        rig.due("0 and 2", rig.river(THREE + "bound 0 2 1"), 3);
        rig.due("2 and 0", rig.river(THREE + "bound 2 0 1"), 3);
        rig.due("3 and 0", rig.river(THREE + "bound 3 0 1"), fault(place, 1));
        rig.due("0 and 3", rig.river(THREE + "bound 0 3 1"), fault(place + 2, 1));
        rig.due("none was told", rig.river("river 7 5;owner 1 1;bound 0 0 1"), fault(26, 1));
        rig.due("an owner told later", rig.river("river 7 5;thing 0 1 1 1;owner 1 1"), fault(16, 1));
        rig.due("a thing told later", rig.river("river 7 5;owner 1 1;thing 0 1 1 1;bound 0 1 1;thing 0 1 1 1"), fault(42, 1));
    }

    /** "once, the first CLAUSE"; "a second river, another CLAUSE ahead of it" */
    private static void riverOnceAndFirst() {
        Rig rig = new Rig("a river once, as the first clause");
        for (String other : new String[] {"owner 1 1", "thing 0 1 1 1", "bound 0 1 1", "rapid 1 1"}) {
            rig.due(other, rig.river(other + ";river 5 5"), fault(0, 4));
            rig.due("  " + other, rig.river("  " + other), fault(2, 4));
            rig.due(other.substring(0, 5), rig.river(other.substring(0, 5)), fault(0, 4));
        }
        rig.due("a second", rig.river("river 5 5;river 5 5"), fault(10, 4));
        rig.due("a second later", rig.river("river 5 5;owner 1 1; river"), fault(21, 4));
        rig.due("the first is enough", rig.river("river 5 5"), 0);
    }

    /** "that ... are not bound to one another yet"; "(a second THING, if it is the first, or bound to it already; a MILE with a RAPID)" */
    private static void toldYetOrNot() {
        Rig rig = new Rig("told already");
        int place = THREE.length() + 8;
        for (int t = 0; t < 3; t++) {
            rig.due("bound to itself", rig.river(THREE + "bound " + t + " " + t + " 1"), fault(place, 1));
        }
        String bound = THREE + "bound 0 1 1;";
        rig.due("bound again", rig.river(bound + "bound 0 1 1"), fault(place + 12, 1));
        rig.due("bound again, the other first", rig.river(bound + "bound 1 0 1"), fault(place + 12, 1));
        rig.due("bound again, with no strength told", rig.river(bound + "bound 1 0"), fault(place + 12, 1));
        rig.due("each to the third", rig.river(bound + "bound 0 2 1;bound 2 1 1"), 3);
        rig.due("all three, and once more", rig.river(bound + "bound 0 2 1;bound 2 1 1;bound 2 0 1"), fault(place + 36, 1));
        rig.due("rapid again", rig.river("river 7 5;rapid 7 1;rapid 7 1"), fault(26, 1));
        rig.due("rapid again behind another", rig.river("river 7 5;rapid 7 1;rapid 6 1;rapid 7 9"), fault(36, 1));
        rig.due("two owners of one landing", rig.river("river 7 5;owner 7 1;owner 7 1"), 0);
    }

    private static String fullest() {
        StringBuilder text = new StringBuilder("river 9 5").append(";owner 1 1".repeat(6)).append(";thing 5 0 0 0".repeat(8));
        for (int t = 0; t < 7; t++) {
            text.append(";bound ").append(t).append(' ').append(t + 1).append(" 1");
        }
        for (int t = 0; t < 5; t++) {
            text.append(";bound ").append(t).append(' ').append(t + 2).append(" 1");
        }
        for (int mile = 1; mile <= 6; mile++) {
            text.append(";rapid ").append(mile).append(" 1");
        }
        return text.toString();
    }

    /** "OWNERS 0 to 5, THINGS 0 to 7, ROPES 0 to 11, RAPIDS 0 to 5"; "a seventh OWNER or RAPID, a ninth THING, a 13th ROPE (at its first byte)"; "40 at most" */
    private static void asManyAsThereCanBe() {
        Rig rig = new Rig("as many as there can be");
        String text = fullest();
        rig.due("33 clauses, fewer than 40", rig.river(text), 8);
        int[] want = {9, 5, 6, 8, 12, 6};
        for (int what = 0; what < want.length; what++) {
            rig.due("count(" + what + ")", rig.raft.count(what), want[what]);
        }
        rig.due("owner(5, 0)", rig.raft.owner(5, 0), 1);
        rig.due("thing(7, 0)", rig.raft.thing(7, 0), 5);
        rig.due("rope(11, 1)", rig.raft.rope(11, 1), 6);
        rig.due("rapid(6)", rig.raft.rapid(6), 1);
        for (String more : new String[] {"owner", "thing", "bound", "rapid", "river"}) {
            rig.due("one " + more + " more", rig.river(text + "; " + more), fault(text.length() + 2, 4));
        }
        rig.due("the end", rig.river(text + ";"), fault(text.length() + 1, 0));
        rig.due("no river by these", rig.raft.count(3), 8);
        String[] kinds = {"owner 9 1", "thing 0 1 1 1", "rapid # 1"};
        int[] most = {6, 8, 6};
        for (int k = 0; k < kinds.length; k++) {
            rig = new Rig("as many as there can be");
            StringBuilder river = new StringBuilder("river 9 5;owner 9 1");
            for (int n = k == 0 ? 1 : 0; n < most[k]; n++) {
                rig.due(n + " of " + kinds[k], rig.river(river.toString()) >= 0 ? 1 : 0, 1);
                river.append(';').append(kinds[k].replace("#", "" + (n + 1)));
            }
            rig.due("as many of " + kinds[k], rig.river(river.toString()) >= 0 ? 1 : 0, 1);
            rig.due("one more of " + kinds[k], rig.river(river + ";" + kinds[k].replace("#", "9")), fault(river.length() + 1, 4));
        }
    }

    /** "It is MILE 0, all are on the river." */
    private static void allOnTheRiverAtMile0() {
        Rig rig = new Rig("it is mile 0, all are on the river");
        String text = "river 2 5;owner 1 9;owner 2 1;thing 0 1 9 1;thing 1 9 0 0;thing 1 0 9 0";
        rig.river(text);
        rig.raft.mile();
        rig.raft.mile();
        rig.due("mile", rig.raft.count(7), 2);
        rig.due("on the river", rig.raft.count(9), 4);
        rig.due("the same again", rig.river(text), 3);
        rig.due("mile", rig.raft.count(7), 0);
        rig.due("on the river", rig.raft.count(9), 7);
        for (int o = 0; o < 2; o++) {
            rig.due("aboard", rig.raft.owner(o, 2), 0);
        }
        for (int t = 0; t < 3; t++) {
            rig.due("on the river", rig.raft.thing(t, 4), 0);
        }
        rig.due("float as told", rig.raft.thing(0, 2), 9);
        rig.due("no owners, no things", rig.river("river 2 5"), 0);
        rig.due("on the river", rig.raft.count(9), 0);
        rig.due("pieces", rig.raft.count(8), 0);
    }

    /** "The TAPE, which is empty then, is the RIVER in place of the one there was (no OFFERS, nothing to be UNDONE; x stays): how many THINGS" */
    private static void riverInPlaceOfAnother() {
        Rig rig = new Rig("a river in place of the one there was");
        String text = "river 30 4;owner 9 2;thing 0 3 9 1;thing 0 1 8 0;bound 0 1 2;rapid 30 9";
        Twin.alikeButForImages(rig, "after a rich one", r -> {
            Twin.RICH.make(r);
            r.end(0);
            Rig.tell(r, text);
            rig.due("things", r.river(), 2);
            rig.due("tape", r.count(13), 0);
            rig.due("offers", r.count(10), 0);
            rig.due("acts", r.count(11), 0);
            rig.due("undo", r.undo(), -2);
            rig.due("x", r.count(12), 54321);
            rig.due("rules", r.count(6), 2);
        }, r -> {
            Rig.tell(r, "tie apart*9+weight if same=0;tie 1");
            r.rule();
            Rig.tell(r, "tie 5 if one=0;tie other");
            r.rule();
            r.seed(54321);
            Rig.tell(r, text);
            r.river();
        });
        PartyRaft r = new PartyRaft();
        Twin.RICH.make(r);
        r.end(0);
        Rig.tell(r, text);
        r.river();
        rig.due("images stay", r.back(0), 1);
        rig.due("miles of the image", r.count(0), 20);
    }

    private static void riverFault(Rig rig, Twin.Ready ready, String text, int place, int kind) {
        Twin.alike(rig, "fault in " + text, r -> {
            ready.make(r);
            r.end(0);
            Rig.tell(r, text);
            rig.due("river(" + text + ")", r.river(), fault(place, kind));
            rig.due("the tape is empty", r.count(13), 0);
        }, r -> {
            ready.make(r);
            r.end(0);
        });
    }

    /** "-2 - its FAULT, and all stays." */
    private static void riverFaultAllStays() {
        Rig rig = new Rig("a fault, and all stays");
        for (Twin.Ready ready : new Twin.Ready[] {Twin.NEW, Twin.RICH, Twin.LAST, Twin.FULL}) {
            riverFault(rig, ready, "", 0, 0);
            riverFault(rig, ready, "river 9 9;owner 9 0;thing 0 5 50 0;thing 0 5 50 0;bound 0 1 9;rapid 3 3;", 72, 0);
            riverFault(rig, ready, "river 9 9;owner 9 0;thing 0 5 50 0;thing 0 5 50 0;bound 0 1 9;rapid 10 3", 68, 1);
            riverFault(rig, ready, "river 9 9;owner 9 0;thing 0 5 50 0;thing 0 5 50 0;bound 0 1 9;river 9 9", 62, 4);
        }
    }

    /** "or the end (behind the last byte)" */
    private static void endBehindTheLastByte() {
        // a text that ends within a word has a word there that can't stand
        String text = "river 2 0;owner 1 0;thing 0 0 0 0;thing 0 0 0 0;bound 0 1 1;rapid 2 9";
        for (int n = 0; n <= text.length(); n++) {
            Rig rig = new Rig("the end, behind the last byte");
            String part = text.substring(0, n);
            int start = n;
            while (start > 0 && Character.isLetter(part.charAt(start - 1))) {
                start--;
            }
            String word = part.substring(start);
            boolean wordIsWhole = word.isEmpty() || word.length() == 5;
            String clause = part.substring(part.lastIndexOf(';') + 1);
            int numbers = clause.replaceAll("[^0-9]", "").length();
            int due = clause.startsWith("thing") ? 4 : clause.startsWith("bound") ? 3 : 2;
            boolean whole = !clause.isEmpty() && wordIsWhole && numbers == due;
            int got = rig.river(part);
            if (whole) {
                rig.due("'" + part + "' is whole", got >= 0 ? 1 : 0, 1);
            } else {
                rig.due("'" + part + "'", got, fault(wordIsWhole ? n : start, 0));
            }
            if (!whole && word.isEmpty()) {
                rig.due("'" + part + "' and three blanks", rig.river(part + "   "), fault(n + 3, 0));
            }
        }
    }

    /** "0 a byte or WORD that can't stand there": all bytes at three places of a river. */
    private static void bytesOfARiver() {
        for (int b = 0; b < 256; b++) {
            Rig rig = new Rig("byte " + b + " in a river");
            char c = (char) b;
            boolean digit = c >= '0' && c <= '9';
            rig.due("at the front", rig.river(c + "river 5 5"), c == ' ' ? 0 : fault(0, 0));
            int behind = digit || c == ' ' ? 0 : c == ';' ? fault(10, 0) : fault(9, 0);
            rig.due("at the end", rig.river("river 5 5" + c), behind);
            // between two numbers: with a digit there the second is missing, and 505 is too much
            int between = digit ? fault(6, 1) : c == ' ' ? 0 : fault(7, 0);
            rig.due("between numbers", rig.river("river 5" + c + "5"), between);
            rig.due("behind a word", rig.river("river" + c + "5 5"), c == ' ' ? 0 : digit ? digitBehindWord(b) : c >= 'a' && c <= 'z' ? fault(0, 0) : fault(5, 0));
        }
    }

    private static int digitBehindWord(int b) {
        int miles = (b - '0') * 10 + 5;
        return miles >= 2 && miles <= 99 ? 0 : fault(5, 1);
    }

    /** "WORDS (small letters, as far as these go on)" */
    private static void wordsOfARiver() {
        Rig rig = new Rig("words of a river");
        for (String word : new String[] {"r", "rive", "rivers", "iver", "River", "RIVER", "rivr", "tie", "if", "one", "a", "z", "ownerthing"}) {
            rig.due(word, rig.river(word + " 5 5"), fault(0, 0));
            rig.due("river 5 5; " + word, rig.river("river 5 5; " + word + " 5 5"), fault(11, 0));
        }
        // a word ends where small letters do: the great letter behind it can't stand there
        rig.due("riverS", rig.river("riverS 5 5"), fault(5, 0));
        rig.due("river5", rig.river("river5 5"), 0);
        rig.due("word behind a number", rig.river("river 5 5owner"), fault(9, 0));
    }

    // ---- Promise 5, and the language of a rule ----

    private static void ruleFault(Rig rig, Twin.Ready ready, String text, int place, int kind) {
        Twin.alike(rig, "fault in " + text, r -> {
            ready.make(r);
            r.end(0);
            Rig.tell(r, text);
            rig.due("rule(" + text + ")", r.rule(), fault(place, kind));
            rig.due("the tape is empty", r.count(13), 0);
        }, r -> {
            ready.make(r);
            r.end(0);
        });
    }

    /** "The TAPE, which is empty then, is a RULE: its number; -2 - its FAULT" */
    private static void ruleFaultAllStays() {
        Rig rig = new Rig("a fault of a rule, and no rule");
        for (Twin.Ready ready : new Twin.Ready[] {Twin.NEW, Twin.RICH, Twin.LAST}) {
            ruleFault(rig, ready, "", 0, 0);
            ruleFault(rig, ready, "tie 9 if one=1;tie 8;", 21, 0);
            ruleFault(rig, ready, "tie 9 if one=1;tie 123456", 19, 1);
            ruleFault(rig, ready, "tie 9 if " + "[".repeat(11), 19, 2);
            ruleFault(rig, ready, "tie 9" + "+1".repeat(60), 124, 3);
            ruleFault(rig, ready, "tie 9" + ";tie 1".repeat(12), 72, 4);
        }
    }

    /** "NONE, and nothing happens: there are 6." */
    private static void ruleThereAreSix() {
        Rig rig = new Rig("nothing happens: there are six rules");
        for (int i = 0; i < 6; i++) {
            rig.due("rule " + i, rig.rule("tie " + i), i);
            rig.due("tape", rig.raft.count(13), 0);
            rig.due("rules", rig.raft.count(6), i + 1);
        }
        Twin.nothing(rig, Twin.FULL, "a seventh", PartyRaft::rule, -1);
        for (String text : new String[] {"tie 1", "x", ""}) {
            Twin.Ready ready = r -> {
                Twin.FULL.make(r);
                r.end(0);
                Rig.tell(r, text);
            };
            Twin.nothing(rig, ready, "a seventh: " + text, PartyRaft::rule, -1);
        }
        // back and a new river take no rule away
        rig.river("river 9 9");
        rig.raft.image(0);
        rig.raft.back(0);
        rig.due("a seventh", rig.rule("tie 1"), -1);
    }

    /** "texts likewise" (at most 400 bytes) */
    private static void ruleOf400Bytes() {
        Rig rig = new Rig("a rule of 400 bytes");
        rig.due("400 bytes", rig.rule("tie 1" + " ".repeat(388) + "+ other"), 0);
        rig.due("395 blanks ahead", rig.rule(" ".repeat(395) + "tie 1"), 1);
        rig.due("a fault at the last byte", rig.rule("tie 1" + " ".repeat(394) + "]"), fault(399, 0));
        rig.due("no room for the sum", rig.rule("tie 1" + " ".repeat(391) + ";tie"), fault(400, 0));
    }

    /** "12 CLAUSES at most"; "4 one CLAUSE too many ... (at its first byte)" */
    private static void ruleClauses() {
        Rig rig = new Rig("twelve clauses at most");
        rig.due("one", rig.rule("tie 1"), 0);
        rig.due("twelve", rig.rule("tie 1" + ";tie 1".repeat(11)), 1);
        rig.due("thirteen", rig.rule("tie 1" + ";tie 1".repeat(12)), fault(72, 4));
        rig.due("thirteen, behind a blank", rig.rule("tie 1" + ";tie 1".repeat(11) + "; tie"), fault(73, 4));
        rig.due("twelve and a ;", rig.rule("tie 1" + ";tie 1".repeat(11) + ";"), fault(72, 0));
        rig.due("none", rig.rule(";tie 1"), fault(0, 0));
    }

    /** "NUMBER (1 to 5 digits, as far as digits go on)"; "1 a NUMBER of more digits" */
    private static void ruleNumbers() {
        Rig rig = new Rig("numbers of a rule, 1 to 5 digits");
        int rules = 0;
        for (String number : new String[] {"0", "99999", "00000", "00001"}) {
            rig.due(number, rig.rule("tie " + number), rules);
            rules++;
        }
        for (String number : new String[] {"000000", "100000", "999999", "4294967297", "99999999999999999999"}) {
            rig.due(number, rig.rule("tie " + number), fault(4, 1));
            rig.due(number, rig.rule("tie 1 if 1<=" + number), fault(12, 1));
        }
        rig.due("two of them", rig.rule("tie 12345 67890"), fault(10, 0));
    }

    /** "WORDS ... of two THINGS" */
    private static void ruleWords() {
        String[] words = {"one", "other", "float", "weight", "soak", "same", "apart", "ropes", "store", "mile", "landing", "left"};
        for (String word : words) {
            Rig rig = new Rig("the word " + word);
            rig.due(word, rig.rule("tie " + word), 0);
            rig.due("in a test", rig.rule("tie 1 if 1>" + word + " or " + word + "<1"), 1);
            rig.due("a letter more", rig.rule("tie " + word + "s"), fault(4, 0));
            rig.due("a letter ahead", rig.rule("tie s" + word), fault(4, 0));
            rig.due("a letter less", rig.rule("tie " + word.substring(0, word.length() - 1)), fault(4, 0));
            rig.due("a great letter", rig.rule("tie " + word.substring(0, word.length() - 1) + "E"), fault(4, 0));
            rig.due("twice", rig.rule("tie " + word + " " + word), fault(5 + word.length(), 0));
            rig.due("as a sign", rig.rule("tie 1 if 1 " + word + " 1"), fault(11, 0));
        }
        Rig rig = new Rig("words that are no values");
        for (String word : new String[] {"tie", "if", "or", "and", "not", "river", "owner", "thing", "bound", "rapid", "miles", "x"}) {
            rig.due(word, rig.rule("tie " + word), fault(4, 0));
            rig.due(word + " behind +", rig.rule("tie 1+ " + word), fault(7, 0));
            rig.due(word + " behind a sign", rig.rule("tie 1 if 1= " + word + " 1"), fault(12, 0));
        }
        for (String word : new String[] {"tie", "or", "and", "not", "iff", "i", "one"}) {
            rig.due(word + " for if", rig.rule("tie 1 " + word + " 1=1"), fault(6, 0));
        }
        for (String word : new String[] {"tie", "if", "not", "andd", "xor", "o", "an"}) {
            rig.due(word + " for and", rig.rule("tie 1 if 1=1 " + word + " 1=1"), fault(13, 0));
        }
        for (String word : new String[] {"tied", "ti", "ties", "if", "one", "river"}) {
            rig.due(word + " for tie", rig.rule(word + " 1"), fault(0, 0));
            rig.due(word + " for a second tie", rig.rule("tie 1;" + word + " 1"), fault(6, 0));
        }
    }

    /** "0 a byte or WORD that can't stand there": all bytes at places of a rule. */
    private static void bytesOfARule() {
        for (int b = 0; b < 256; b++) {
            Rig rig = new Rig("byte " + b + " in a rule");
            char c = (char) b;
            boolean digit = c >= '0' && c <= '9';
            boolean operator = "+-*/%".indexOf(c) >= 0;
            int inSum = digit || operator ? 0 : c == ' ' || c == ';' ? fault(6, 0) : fault(5, 0);
            rig.due("in a sum", rig.rule("tie 5" + c + "5"), inSum);
            boolean sign = c == '<' || c == '=' || c == '>';
            int inFact = sign ? rig.raft.count(6) : digit || operator ? fault(12, 0) : c == ' ' ? fault(11, 0) : fault(10, 0);
            rig.due("in a fact", rig.rule("tie 1 if 1" + c + "1"), inFact);
            int behind = digit || c == ' ' ? rig.raft.count(6) : operator || c == ';' ? fault(13, 0) : fault(12, 0);
            rig.due("behind a fact", rig.rule("tie 1 if 1=1" + c), behind);
            // a [ opens a test, and 1=1 within it is not closed
            int ahead = digit || c == ' ' ? rig.raft.count(6) : c == '[' ? fault(13, 0) : fault(9, 0);
            rig.due("ahead of a fact", rig.rule("tie 1 if " + c + "1=1"), ahead);
            // behind a digit, a blank or an operator the end can't stand
            int within = c == ']' ? rig.raft.count(6) : operator || digit || c == ' ' ? fault(14, 0) : fault(13, 0);
            rig.due("within brackets", rig.rule("tie 1 if [1=1" + c), within);
        }
    }

    /** "SIGN one of < <= = >= >" */
    private static void signs() {
        Rig rig = new Rig("signs");
        int rules = 0;
        for (String sign : new String[] {"<", "<=", "=", ">=", ">"}) {
            rig.due(sign, rig.rule("tie 1 if 1" + sign + "1"), rules);
            rules++;
        }
        for (String sign : new String[] {"=<", "=>", "==", "<>", "><", "<<", ">>"}) {
            rig.due(sign, rig.rule("tie 1 if 1" + sign + "1"), fault(11, 0));
        }
        for (String sign : new String[] {"<==", ">==", "<=<", ">=>", "< =", "> ="}) {
            rig.due(sign, rig.rule("tie 1 if 1" + sign + "1"), fault(12, 0));
        }
        rig.due("no sum behind it", rig.rule("tie 1 if 1<="), fault(12, 0));
        rig.due("no sum ahead of it", rig.rule("tie 1 if <=1"), fault(9, 0));
        rig.due("a second", rig.rule("tie 1 if 1<1<1"), fault(12, 0));
        rig.due("none", rig.rule("tie 1 if 1"), fault(10, 0));
    }

    /** "Blanks (32) stand between as one likes." */
    private static void blanks() {
        Rig rig = new Rig("blanks");
        rig.due("none but between letters", rig.rule("tie1+2*one-3if[not 1<=2]and1>0or2=2;tie0"), 0);
        rig.due("everywhere", rig.rule("  tie  1  +  2  *  one  -  3  if  [  not  1  <=  2  ]  and  1  >  0  or  2  =  2  ;  tie  0  "), 1);
        rig.due("within a word", rig.rule("ti e 1"), fault(0, 0));
        rig.due("within a word", rig.rule("tie o ne"), fault(4, 0));
        rig.due("not and [ close together", rig.rule("tie 1 if not[not[1=1]]"), 2);
        for (char c : new char[] {9, 10, 13, 11, 12, 0, 160}) {
            rig.due("byte " + (int) c + " is no blank", rig.rule("tie" + c + "1"), fault(3, 0));
        }
    }

    /** "[ and not lie within one another 10 deep at most"; "2 too deep (at the sign that opens, or the word not)" */
    private static void depth() {
        Rig rig = new Rig("ten deep at most");
        rig.due("ten [", rig.rule("tie 1 if " + "[".repeat(10) + "1=1" + "]".repeat(10)), 0);
        rig.due("ten not", rig.rule("tie 1 if " + "not ".repeat(10) + "1=1"), 1);
        rig.due("ten of both", rig.rule("tie 1 if " + "[not ".repeat(5) + "1=1" + "]".repeat(5)), 2);
        rig.due("ten, and ten beside them", rig.rule("tie 1 if " + "[".repeat(10) + "1=1" + "]".repeat(10) + " and " + "not ".repeat(10) + "1=1"), 3);
        rig.due("ten in each clause", rig.rule("tie 1 if " + "[".repeat(10) + "1=1" + "]".repeat(10) + ";tie 1 if " + "[".repeat(10) + "1=1" + "]".repeat(10)), 4);
        rig.due("eleven [", rig.rule("tie 1 if " + "[".repeat(11) + "1=1" + "]".repeat(11)), fault(19, 2));
        rig.due("eleven not", rig.rule("tie 1 if " + "not ".repeat(11) + "1=1"), fault(49, 2));
        rig.due("a [ in ten not", rig.rule("tie 1 if " + "not ".repeat(10) + "[1=1]"), fault(49, 2));
        rig.due("a not in ten [", rig.rule("tie 1 if " + "[".repeat(10) + " not 1=1" + "]".repeat(10)), fault(20, 2));
        rig.due("the eleventh behind a fact", rig.rule("tie 1 if " + "[".repeat(10) + "1=1 and [1=1"), fault(27, 2));
        rig.due("the eleventh behind a fact", rig.rule("tie 1 if " + "[".repeat(10) + "1=1 or not 1=1"), fault(26, 2));
        rig.due("the eleventh where one closed", rig.rule("tie 1 if " + "[".repeat(10) + "1=1] and [1=1" + "]".repeat(10)), 5);
    }

    /** "at most 60 VALUES (of SUMS) and FACTS made of a SIGN, together"; "3 one VALUE or FACT too many (at its first byte; of a FACT at its SIGN)" */
    private static void sixtyValuesAndFacts() {
        Rig rig = new Rig("sixty values and facts at most");
        rig.due("60 values", rig.rule("tie 1" + "+1".repeat(59)), 0);
        rig.due("61 values", rig.rule("tie 1" + "+1".repeat(60)), fault(124, 3));
        rig.due("61 values, the last behind a blank", rig.rule("tie 1" + "+1".repeat(59) + "+ one"), fault(125, 3));
        // 57 of the sum, two of the fact and its sign
        String text = "tie 1" + "+1".repeat(56) + " if ";
        rig.due("57 and a fact of 3", rig.rule(text + "1=1"), 1);
        rig.due("57 and a fact of 4", rig.rule(text + "1=1+1"), fault(text.length() + 4, 3));
        rig.due("57, a fact of 3, and a value", rig.rule(text + "1=1 and 1"), fault(text.length() + 8, 3));
        rig.due("58 and a fact: the second value", rig.rule("tie 1" + "+1".repeat(57) + " if 1=1"), fault(125, 3));
        rig.due("59 and a fact: its sign", rig.rule("tie 1" + "+1".repeat(58) + " if 1 >= 1"), fault(127, 3));
        rig.due("60 and a fact: its first value", rig.rule("tie 1" + "+1".repeat(59) + " if 1=1"), fault(127, 3));
        rig.due("60 and a not ahead of the 61st", rig.rule("tie 1" + "+1".repeat(59) + " if not [ one"), fault(133, 3));
        rig.due("of all clauses together", rig.rule("tie 1" + "+1".repeat(29) + ";tie 1" + "+1".repeat(29)), 2);
        rig.due("of all clauses together", rig.rule("tie 1" + "+1".repeat(29) + ";tie 1" + "+1".repeat(30)), fault(63 + 65, 3));
        rig.due("each rule has its own", rig.rule("tie 1" + "+1".repeat(59)), 3);
    }

    /** "Of one place the least." */
    private static void ofOnePlaceTheLeast() {
        Rig rig = new Rig("of one place the least");
        String sixty = "tie 1" + "+1".repeat(59) + "+";
        rig.due("a word that can't stand there, and the 61st value", rig.rule(sixty + "ones"), fault(124, 0));
        rig.due("the end, where the 61st value would stand", rig.rule(sixty), fault(124, 0));
        rig.due("more digits, and the 61st value", rig.rule(sixty + "123456"), fault(124, 1));
        rig.due("five digits, and the 61st value", rig.rule(sixty + "12345"), fault(124, 3));
        String sign = "tie 1" + "+1".repeat(58) + " if 1";
        rig.due("a byte that can't stand there, where the 61st would be a sign", rig.rule(sign + "]"), fault(sign.length(), 0));
        String twelve = "tie 1" + ";tie 1".repeat(11) + ";";
        rig.due("a word that can't stand there, as the 13th clause", rig.rule(twelve + "ties 1"), fault(72, 0));
        rig.due("the end, where the 13th clause would stand", rig.rule(twelve), fault(72, 0));
        String seven = "river 9 5" + ";owner 1 1".repeat(6) + ";";
        rig.due("a word that can't stand there, as a seventh owner", rig.river(seven + "owners 1 1"), fault(seven.length(), 0));
        rig.due("a word that can't stand there, ahead of the river", rig.river("owned 1 1;river 5 5"), fault(0, 0));
        rig.due("a [ that can't stand in a sum, though eleven deep", rig.rule("tie 1 if " + "[".repeat(10) + "1=[1"), fault(21, 0));
        rig.due("a not that can't stand in a sum, though eleven deep", rig.rule("tie 1 if " + "[".repeat(10) + "1=not 1"), fault(21, 0));
    }

    /** "FAULTS, the first along the text" */
    private static void theFirstAlongTheText() {
        Rig rig = new Rig("the first along the text");
        rig.due("a number, then a byte", rig.river("river 100 !"), fault(6, 1));
        rig.due("a byte, then a number", rig.river("river ! 100"), fault(6, 0));
        rig.due("a number, then another", rig.river("river 1 100"), fault(6, 1));
        rig.due("a seventh owner, then a number", rig.river("river 9 5" + ";owner 1 1".repeat(6) + ";owner 10 1"), fault(70, 4));
        rig.due("a sixth owner's number, then a seventh", rig.river("river 9 5" + ";owner 1 1".repeat(5) + ";owner 1 21;owner 1 1"), fault(68, 1));
        rig.due("a second river, then an end", rig.river("river 9 5;river"), fault(10, 4));
        rig.due("too deep, then a byte", rig.rule("tie 1 if " + "[".repeat(11) + "!"), fault(19, 2));
        rig.due("a byte, then too deep", rig.rule("tie ! if " + "[".repeat(11)), fault(4, 0));
        rig.due("61 values, then a number", rig.rule("tie 1" + "+1".repeat(60) + "+123456"), fault(124, 3));
        rig.due("a number, then 61 values", rig.rule("tie 123456" + "+1".repeat(60)), fault(4, 1));
        rig.due("a 13th clause, then a byte", rig.rule("tie 1" + ";tie 1".repeat(11) + ";tie !"), fault(72, 4));
        rig.due("a byte, then a 13th clause", rig.rule("tie !" + ";tie 1".repeat(12)), fault(4, 0));
    }
}
