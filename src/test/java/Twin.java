import java.util.IdentityHashMap;
import java.util.Map;

/**
 * Two objects that should be alike: all that calls show of them is compared, each view on objects of
 * its own, as some views change what they look at, and as an object has 512 calls at most.
 */
final class Twin {
    /** What is done to a new object ahead of what is tested. */
    interface Ready {
        void make(PartyRaft r);
    }

    interface Call {
        int on(PartyRaft r);
    }

    private interface View {
        void of(PartyRaft r, StringBuilder s);
    }

    /** No RIVER. */
    static final Ready NEW = r -> { };

    /** At MILE 2 of 20: THINGS on the river, in PIECES, and one that SANK; ACTS, two IMAGES, RULES, OFFERS, a TAPE. */
    static final Ready RICH = Twin::makeRich;

    /** At the last MILE, with one THING on the river, one LANDED and one SUNK. */
    static final Ready LAST = Twin::makeLast;

    /** As much as there can be of THINGS, ROPES, RULES, OFFERS, IMAGES, of ACTS to be UNDONE, and of bytes. */
    static final Ready FULL = Twin::makeFull;

    private static final String[] NAMES = {"looks", "asks", "past", "images", "rules", "the tape as a river", "the tape as a rule"};
    private static final View[] VIEWS = {Twin::looks, Twin::asks, Twin::past, Twin::images, Twin::rules, Twin::tapeAsRiver, Twin::tapeAsRule};
    private static final int IMAGES = 3;
    private static final Map<Ready, String[]> SEEN = new IdentityHashMap<>();

    private Twin() {
    }

    /** A call answers what is due, and all is as without it. */
    static void nothing(Rig rig, Ready ready, String name, Call call, int want) {
        String[] without = SEEN.computeIfAbsent(ready, Twin::views);
        String[] with = views(r -> {
            ready.make(r);
            rig.due(name, call.on(r), want);
        });
        compare(rig, name, without, with, true);
    }

    static void alike(Rig rig, String name, Ready one, Ready other) {
        compare(rig, name, views(one), views(other), true);
    }

    static void alikeButForImages(Rig rig, String name, Ready one, Ready other) {
        compare(rig, name, views(one), views(other), false);
    }

    private static void compare(Rig rig, String name, String[] one, String[] other, boolean images) {
        for (int v = 0; v < VIEWS.length; v++) {
            if (images || v != IMAGES) {
                rig.due(name + ": " + NAMES[v] + " are alike", one[v].equals(other[v]) ? 1 : 0, 1);
            }
        }
    }

    private static String[] views(Ready ready) {
        String[] all = new String[VIEWS.length];
        for (int v = 0; v < VIEWS.length; v++) {
            PartyRaft r = new PartyRaft();
            ready.make(r);
            StringBuilder s = new StringBuilder();
            VIEWS[v].of(r, s);
            all[v] = s.toString();
        }
        return all;
    }

    private static void add(StringBuilder s, int number) {
        s.append(number).append(' ');
    }

    private static void looks(PartyRaft r, StringBuilder s) {
        for (int what = 0; what < 14; what++) {
            add(s, r.count(what));
        }
        for (int o = 0; o < 6; o++) {
            for (int what = 0; what < 4; what++) {
                add(s, r.owner(o, what));
            }
        }
        for (int t = 0; t < 8; t++) {
            for (int what = 0; what < 6; what++) {
                add(s, r.thing(t, what));
            }
            add(s, r.margin(t));
        }
        for (int rope = 0; rope < 12; rope++) {
            for (int what = 0; what < 3; what++) {
                add(s, r.rope(rope, what));
            }
        }
        for (int mile = 0; mile < 100; mile++) {
            add(s, r.rapid(mile));
        }
    }

    private static void asks(PartyRaft r, StringBuilder s) {
        int left = r.count(0) - r.count(7);
        int afloat = r.count(9);
        for (int what = 0; what < 4; what++) {
            for (int n = 0; n <= left; n += 7) {
                add(s, r.ahead(n, what));
            }
        }
        for (int t = 0; t < 8; t++) {
            add(s, r.sinks(t));
            add(s, r.bearers(1 << t, 1));
            add(s, r.take(t, 0));
            add(s, r.take(t, 1));
            add(s, r.game(t, 1));
            add(s, r.locks(60, t));
            add(s, r.plan(t - 1));
        }
        for (int what = 0; what < 3; what++) {
            add(s, r.delta(what));
            add(s, r.weak(what));
            add(s, r.drawn(3, Math.min(left, 9), what));
        }
        add(s, r.sawn(afloat & -afloat, 1));
        add(s, r.sawn(0, 2));
    }

    private static void past(PartyRaft r, StringBuilder s) {
        for (int i = 0; i < 22; i++) {
            for (int what : new int[] {1, 4, 7, 9}) {
                add(s, r.count(what));
            }
            for (int t = 0; t < 8; t++) {
                add(s, r.thing(t, i % 2 == 0 ? 0 : 2));
            }
            add(s, r.rope(0, 2));
            add(s, r.undo());
        }
    }

    private static void images(PartyRaft r, StringBuilder s) {
        for (int k = 0; k < 4; k++) {
            add(s, r.back(k));
            for (int what = 0; what < 14; what++) {
                add(s, r.count(what));
            }
            for (int t = 0; t < 8; t++) {
                add(s, r.thing(t, 0));
                add(s, r.thing(t, 2));
                add(s, r.thing(t, 4));
                add(s, r.rope(t, 2));
            }
            add(s, r.take(0, 0));
            add(s, r.undo());
            add(s, r.count(7));
        }
    }

    private static void rules(PartyRaft r, StringBuilder s) {
        add(s, r.count(6));
        r.end(0);
        Rig.tell(r, "river 30 30;owner 30 0" + ";thing 0 1 9 0;thing 0 7 9 0;thing 0 3 9 0;thing 0 2 9 0");
        r.river();
        for (int k = 0; k < 7; k++) {
            add(s, r.run(k, 1, 1));
            add(s, r.count(4));
            add(s, r.rope(k, 0));
            add(s, r.rope(k, 1));
        }
    }

    private static void tapeAsRiver(PartyRaft r, StringBuilder s) {
        add(s, r.count(13));
        add(s, r.river());
        looks(r, s);
    }

    private static void tapeAsRule(PartyRaft r, StringBuilder s) {
        add(s, r.count(13));
        add(s, r.rule());
        add(s, r.count(6));
        add(s, r.count(13));
        rules(r, s);
    }

    private static void makeRich(PartyRaft r) {
        Rig.tell(r, "river 20 30;owner 6 2;owner 20 3;owner 12 0;thing 0 3 20 1;thing 1 4 30 0;thing 1 2 9 0;thing 2 9 12 1;"
            + "thing 0 1 1 0;thing 1 5 4 0;bound 0 1 5;bound 1 2 3;bound 3 1 4;bound 0 3 2;rapid 2 3;rapid 9 9");
        r.river();
        Rig.tell(r, "tie apart*9+weight if same=0;tie 1");
        r.rule();
        Rig.tell(r, "tie 5 if one=0;tie other");
        r.rule();
        r.offer(2, 30, 4);
        r.offer(1, 5, 0);
        r.seed(12345);
        r.bind(2, 4, 2);
        r.mile();
        r.push(4, 1);
        r.image(0);
        r.mile();
        r.bind(4, 0, 3);
        r.cut(0);
        r.image(2);
        r.saw(3);
        r.seed(54321);
        Rig.tell(r, "tie weight");
    }

    private static void makeLast(PartyRaft r) {
        Rig.tell(r, "river 2 9;owner 2 1;owner 1 0;owner 2 9;thing 0 1 9 1;thing 1 0 5 2;thing 2 5 0 0;thing 2 1 9 1;bound 0 1 4;rapid 2 5");
        r.river();
        Rig.tell(r, "tie 1");
        r.rule();
        r.offer(1, 2, 3);
        r.image(1);
        r.mile();
        r.mile();
        Rig.tell(r, "river 5 5");
    }

    private static void makeFull(PartyRaft r) {
        StringBuilder text = new StringBuilder("river 99 99;owner 90 0;owner 99 0");
        for (int t = 0; t < 8; t++) {
            text.append(";thing 0 ").append(1 + t).append(" 50 0");
        }
        for (int t = 0; t < 8; t++) {
            text.append(";bound ").append(t).append(' ').append((t + 1) % 8).append(" 9");
        }
        for (int t = 0; t < 4; t++) {
            text.append(";bound ").append(t).append(' ').append(t + 4).append(' ').append(t + 1);
        }
        Rig.tell(r, text.toString());
        r.river();
        for (String rule : new String[] {"tie 1", "tie other", "tie one+1", "tie weight", "tie 8-other", "tie 5 if one=2"}) {
            Rig.tell(r, rule);
            r.rule();
        }
        for (int i = 0; i < 6; i++) {
            r.offer(i, 20 + i, i);
        }
        for (int i = 0; i < 24; i++) {
            r.push(i % 8, i < 8 || i >= 16 ? 1 : 0);
            if (i % 6 == 0) {
                r.image(i / 6);
            }
        }
        for (int i = 0; i < 20; i++) {
            r.feed(i == 0 ? 0x74696520 : 0x202b3120, i == 0 ? 0x31202020 : 0x20202020, 0x20202020, 0x20202020, 0x20202020);
        }
    }
}
