/** A place for the first landing: the constants. */
public final class SmokeTest {
    public static void main(String[] args) {
        Rig rig = new Rig("constants");
        rig.due("NONE", PartyRaft.NONE, -1);
        Rig.close(rig);
    }
}
