/** Promises 29, 30, 32 and 33: draws, images. */
public final class ImageTest {
    public static void main(String[] args) {
        seed();
        drawn();
        drawnRapids();
        images();
        imagesOfOffers();
        imageOfNoRiver();
        imagesOfUndo();
        Rig.close();
    }

    private static void seed() {
        Rig rig = new Rig("seed");
        rig.due("seed", rig.raft.seed(5), 0);
        rig.due("seed", rig.raft.seed(2147483647), 5);
        rig.due("seed", rig.raft.seed(-1), -1);
        rig.due("seed", rig.raft.seed(Integer.MIN_VALUE), -1);
        rig.due("count(12)", rig.raft.count(12), 2147483647);
        rig.due("seed", rig.raft.seed(0), 2147483647);
    }

    private static void drawn() {
        // from x = 0 on: 12345, 1406932606, 654583775, 1449466924, 229283573: draws 0, 21468, 9988, 22117, 3498
        // forces 0, 8, 8, 7, 8
        Rig rig = Rig.on("drawn", "river 60 0;owner 3 0;owner 60 0;thing 0 0 9 0;thing 1 0 9 0;thing 1 3 0 0;thing 1 0 0 0;"
            + "bound 0 1 7;bound 1 2 7;bound 1 3 8");
        PartyRaft r = rig.raft;
        int[][] want = {{0, 0, 0}, {1, 0, 2}, {1, 1, 2}, {1, 1, 2}};
        for (int n = 1; n <= 4; n++) {
            for (int what = 0; what < 3; what++) {
                rig.due("drawn(1, " + n + ", " + what + ")", r.drawn(1, n, what), want[n - 1][what]);
            }
        }
        rig.due("the second time draws on: 8", r.drawn(2, 1, 2), 2);
        rig.due("the second time draws on: 8", r.drawn(2, 1, 0), 1);
        rig.due("forces 0, 8 and 8, 7", r.drawn(2, 2, 2), 4);
        rig.due("forces 0, 8, 8", r.drawn(3, 1, 2), 4);
        rig.due("forces 0, 8, 8, 7, 8", r.drawn(5, 1, 2), 6);
        rig.due("x as it was", r.count(12), 0);
        rig.due("mile as it was", r.count(7), 0);
        r.seed(12345);
        rig.due("from another x on: 8", r.drawn(1, 1, 2), 2);
        rig.due("m 0", r.drawn(0, 1, 0), -1);
        rig.due("m 21", r.drawn(21, 1, 0), -1);
        rig.due("n 0", r.drawn(1, 0, 0), -1);
        rig.due("n 61", r.drawn(1, 61, 0), -1);
        rig.due("what 3", r.drawn(1, 1, 3), -1);
        rig.due("what -1", r.drawn(1, 1, -1), -1);
        rig.due("most", r.drawn(20, 60, 1), 20 * 3);
        r.mile();
        rig.due("not behind the last", r.drawn(1, 60, 1), -1);
        rig.due("to the last", r.drawn(20, 59, 1), 20 * 3);
        rig.river("river 99 0;owner 60 0;thing 0 0 0 0");
        rig.due("sixty miles at most", r.drawn(1, 61, 1), -1);
        rig.due("sixty miles", r.drawn(20, 60, 1), 20);
        rig.due("fewer", r.drawn(20, 59, 1), 0);
    }

    private static void drawnRapids() {
        Rig rig = Rig.on("drawn", "river 9 0;owner 9 0;thing 0 0 0 0;thing 0 0 0 0;thing 0 0 0 0;bound 0 1 8;bound 1 2 2;rapid 1 3;rapid 2 1");
        // force 0 against 3 of the rapid, then 8 against 1
        rig.due("the rapid is greater", rig.raft.drawn(1, 1, 2), 1);
        rig.raft.seed(12345);
        // force 8 against 3, 8 against 1
        rig.due("the draw is greater", rig.raft.drawn(1, 2, 2), 1);
        rig.due("by hand no draw", rig.raft.mile(), 0);
        rig.due("ropes", rig.raft.count(4), 1);
    }

    private static void images() {
        Rig rig = Rig.on("images", "river 9 9;owner 4 0;owner 9 1;thing 0 0 9 2;thing 1 0 9 2;thing 1 1 2 1;bound 0 1 2;rapid 3 1");
        PartyRaft r = rig.raft;
        rig.due("never made", r.back(1), -1);
        rig.due("no such", r.image(4), -1);
        rig.due("no such", r.image(-1), -1);
        rig.due("no such", r.back(4), -1);
        rig.due("no such", r.back(-1), -1);
        r.offer(1, 2, 3);
        r.seed(17);
        r.mile();
        rig.due("image", r.image(0), 1);
        int[] before = counts(r);
        r.mile();
        r.mile();
        rig.due("image", r.image(3), 3);
        r.offer(1, 1, 1);
        r.seed(99);
        r.push(0, 1);
        r.cut(0);
        rig.river("river 20 20");
        rig.rule("tie 5");
        Rig.tell(r, "xyz");
        rig.due("back", r.back(0), 1);
        before[6] = 1;
        before[13] = 3;
        int[] after = counts(r);
        for (int what = 0; what < 14; what++) {
            rig.due("count(" + what + ") as it was, rules and tape as they are", after[what], before[what]);
        }
        rig.due("rapid", r.rapid(3), 1);
        rig.due("owner", r.thing(0, 0), 0);
        rig.due("float", r.thing(0, 2), 7);
        rig.due("rope", r.rope(0, 2), 2);
        rig.due("weight of a thing", r.thing(2, 1), 1);
        rig.due("weight of an owner", r.owner(1, 1), 1);
        rig.due("back to the other", r.back(3), 3);
        rig.due("float", r.thing(0, 2), 3);
        rig.due("sunk", r.thing(2, 4), 2);
        rig.due("sank at", r.sinks(2), 2);
        rig.due("made anew", r.image(0), 3);
        r.mile();
        rig.due("landed", r.thing(0, 4), 1);
        rig.due("back", r.back(0), 3);
        rig.due("not landed", r.thing(0, 4), 0);
        rig.due("back once more", r.back(0), 3);
        rig.due("never made", r.back(1), -1);
    }

    private static int[] counts(PartyRaft r) {
        int[] counts = new int[14];
        for (int what = 0; what < 14; what++) {
            counts[what] = r.count(what);
        }
        return counts;
    }

    private static void imagesOfOffers() {
        Rig rig = Rig.on("images of offers", "river 9 9;owner 9 0;thing 0 5 5 1");
        PartyRaft r = rig.raft;
        r.offer(1, 9, 3);
        r.offer(2, 9, 3);
        r.image(0);
        rig.due("take", r.take(0, 1), 3);
        r.offer(-1, 0, 0);
        r.offer(50, 0, 9);
        r.offer(0, 99, 0);
        rig.due("take", r.take(0, 0), 1);
        r.back(0);
        rig.due("offers", r.count(10), 2);
        rig.due("take", r.take(0, 0), 0);
        rig.due("take", r.take(0, 1), 3);
    }

    private static void imageOfNoRiver() {
        Rig rig = new Rig("image of no river");
        PartyRaft r = rig.raft;
        rig.due("image", r.image(2), 0);
        rig.river("river 9 9;owner 9 0;thing 0 0 9 0");
        r.mile();
        rig.due("back", r.back(2), 0);
        rig.due("miles", r.count(0), 0);
        rig.due("things", r.count(3), 0);
        rig.due("mile", r.mile(), -1);
        rig.due("rapid", r.rapid(0), -1);
        rig.due("undo", r.undo(), -2);
    }

    private static void imagesOfUndo() {
        Rig rig = Rig.on("undo", "river 50 9;owner 50 0;thing 0 0 99 1");
        PartyRaft r = rig.raft;
        for (int i = 0; i < 25; i++) {
            r.mile();
        }
        r.image(0);
        for (int i = 0; i < 7; i++) {
            r.undo();
        }
        for (int i = 0; i < 3; i++) {
            r.saw(0);
        }
        rig.due("acts", r.count(11), 16);
        rig.due("back", r.back(0), 25);
        rig.due("acts", r.count(11), 20);
        for (int i = 19; i >= 0; i--) {
            rig.due("undo", r.undo(), i);
            rig.due("mile", r.count(7), 5 + i);
            rig.due("float", r.thing(0, 2), 99 - 5 - i);
        }
        rig.due("none", r.undo(), -2);
        // an image of another beginning of the ring
        rig.river("river 50 9;owner 50 0;thing 0 0 99 1");
        r.mile();
        r.mile();
        r.image(1);
        for (int i = 0; i < 26; i++) {
            r.mile();
        }
        rig.due("back", r.back(1), 2);
        rig.due("undo", r.undo(), 1);
        rig.due("mile", r.count(7), 1);
        rig.due("undo", r.undo(), 0);
        rig.due("mile", r.count(7), 0);
        // what was undone since is there again in the image
        rig.due("back", r.back(0), 25);
        rig.due("undo", r.undo(), 19);
        rig.due("mile", r.count(7), 24);
    }
}
