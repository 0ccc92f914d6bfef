/** A PartyRaft under test, and what its calls should answer. */
final class Rig {
    final PartyRaft raft = new PartyRaft();
    private static int wrong;
    private static int asked;
    private final String name;

    Rig(String name) {
        this.name = name;
    }

    static Rig on(String name, String river) {
        Rig rig = new Rig(name);
        int things = rig.river(river);
        if (things < 0) {
            rig.due("river(" + river + ")", things, 0);
        }
        return rig;
    }

    static void tell(PartyRaft raft, String text) {
        byte[] bytes = new byte[(text.length() + 19) / 20 * 20];
        for (int i = 0; i < text.length(); i++) {
            bytes[i] = (byte) text.charAt(i);
        }
        int had = raft.count(13);
        for (int i = 0; i < bytes.length; i += 20) {
            raft.feed(word(bytes, i), word(bytes, i + 4), word(bytes, i + 8), word(bytes, i + 12), word(bytes, i + 16));
        }
        raft.end(had + text.length());
    }

    private static int word(byte[] bytes, int at) {
        return bytes[at] << 24 | (bytes[at + 1] & 255) << 16 | (bytes[at + 2] & 255) << 8 | bytes[at + 3] & 255;
    }

    int river(String text) {
        tell(raft, text);
        return raft.river();
    }

    int rule(String text) {
        tell(raft, text);
        return raft.rule();
    }

    /** What river() and rule() answer to a FAULT. */
    static int fault(int place, int kind) {
        return -2 - (1 + 8 * place + kind);
    }

    void due(String call, long got, long want) {
        asked++;
        if (got != want) {
            wrong++;
            System.out.println(name + ": " + call + " answered " + got + ", due is " + want);
        }
    }

    /** Says how many answers were wrong; the program ends with 1, if any. */
    static void close() {
        System.out.println(asked + " answers, " + wrong + " wrong");
        if (wrong != 0) {
            System.exit(1);
        }
    }
}
