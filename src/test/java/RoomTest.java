import com.sun.management.ThreadMXBean;
import java.lang.management.ManagementFactory;
import java.util.Random;

/** No call makes objects, and none throws, whatever it is given; one object is small enough. */
public final class RoomTest {
    private static final int[] ODD = {0, 1, -1, 2, 3, 5, 6, 7, 8, 9, 10, 11, 12, 13, 20, 31, 32, 33, 60, 99, 100, 200, 255, 400,
        -2, -10000, 65536, Integer.MAX_VALUE, Integer.MIN_VALUE, Integer.MAX_VALUE - 1};
    private static final String RIVER = "river 99 99;owner 90 1;owner 99 2;owner 40 3;owner 50 4;owner 60 5;owner 99 6;"
        + "thing 0 1 99 0;thing 1 2 98 1;thing 2 3 97 0;thing 3 4 96 1;thing 4 5 95 0;thing 5 6 94 1;thing 0 7 93 2;thing 0 50 20 0;"
        + "bound 0 1 9;bound 1 2 8;bound 2 3 7;bound 3 4 6;bound 4 5 5;bound 5 6 4;bound 6 7 3;bound 7 0 2;bound 0 2 9;bound 2 4 9;"
        + "bound 4 6 9;bound 1 7 9;rapid 98 9";
    private static final long MOST_BYTES_MADE = 400_000;

    public static void main(String[] args) {
        ThreadMXBean threads = (ThreadMXBean) ManagementFactory.getThreadMXBean();
        int wrong = 0;
        for (int seed = 0; seed < 400; seed++) {
            Random random = new Random(seed);
            PartyRaft raft = new PartyRaft();
            if (seed % 4 != 0) {
                Rig.tell(raft, RIVER);
                raft.river();
                Rig.tell(raft, "tie weight*one+other if apart=1 or not [left<3];tie 1");
                raft.rule();
            }
            long before = threads.getCurrentThreadAllocatedBytes();
            for (int i = 0; i < 400; i++) {
                call(raft, random, i % 33);
            }
            long made = threads.getCurrentThreadAllocatedBytes() - before;
            // what the machine itself makes while it gets warm is not the class's
            if (seed > 100 && made > 20_000) {
                wrong++;
                System.out.println("run " + seed + " made " + made + " bytes");
            }
        }
        long before = threads.getCurrentThreadAllocatedBytes();
        PartyRaft raft = new PartyRaft();
        long made = threads.getCurrentThreadAllocatedBytes() - before;
        if (made > MOST_BYTES_MADE || raft.count(0) != 0) {
            wrong++;
            System.out.println("an object takes " + made + " bytes");
        }
        System.out.println(wrong + " runs take too much room; an object takes " + made + " bytes");
        if (wrong != 0) {
            System.exit(1);
        }
    }

    private static int any(Random random) {
        return random.nextInt(3) == 0 ? ODD[random.nextInt(ODD.length)] : random.nextInt(10);
    }

    private static int call(PartyRaft r, Random random, int which) {
        int a = any(random);
        int b = any(random);
        int c = any(random);
        switch (which) {
            case 0: return random.nextInt(9) == 0 ? r.river() : 0;
            case 1: return r.feed(a, b, c, any(random), any(random));
            case 2: return r.end(a);
            case 3: return r.rule();
            case 4: return r.owner(a, b);
            case 5: return r.thing(a, b);
            case 6: return r.rope(a, b);
            case 7: return r.rapid(a);
            case 8: return r.margin(a);
            case 9: return r.mile();
            case 10: return r.bind(a, b, c);
            case 11: return r.cut(a);
            case 12: return r.saw(a);
            case 13: return r.push(a, b);
            case 14: return r.undo();
            case 15: return r.run(a, b, c);
            case 16: return r.ahead(a, b);
            case 17: return r.sinks(a);
            case 18: return r.bearers(a, b);
            case 19: return r.plan(a);
            case 20: return r.sawn(a, b);
            case 21: return r.locks(a, b);
            case 22: return r.delta(a);
            case 23: return r.weak(a);
            case 24: return r.offer(a, b, c);
            case 25: return r.take(a, b);
            case 26: return r.game(a, b);
            case 27: return r.seed(a);
            case 28: return r.drawn(a, b, c);
            case 29: return r.count(a);
            case 30: return r.image(a);
            default: return r.back(a);
        }
    }
}
