/** Promises 1 to 8: a new object, and its installs. */
public final class InstallsTest {
    private static final int[] BAD_INDEXES = {-1, 12, 13, Integer.MIN_VALUE, Integer.MAX_VALUE};

    private static final Checks checks = new Checks();

    public static void main(String[] args) {
        newObject();
        installNumbers();
        installRanges();
        installLimits();
        retire();
        moveTo();
        setVersion();
        setPool();
        isThere();
        checks.end();
    }

    private static Entitled deskWithOne() {
        Entitled desk = new Entitled();
        desk.install(1, 5, 2, 3, 4, 8, 1);
        return desk;
    }

    private static void newObject() {
        Entitled desk = new Entitled();
        checks.due("new: installs()", desk.installs(), 0);
        checks.due("new: covered()", desk.covered(), 0);
        checks.due("new: coveredByTrying()", desk.coveredByTrying(), 0);
        checks.due("new: purchase()", desk.purchase(), 0);
        checks.due("new: spent()", desk.spent(), 0L);
        checks.thrown("new: units(0)", Checks.INDEX, () -> desk.units(0));
        checks.thrown("new: coverage()", Checks.NONE, desk::coverage);
        for (int i = 0; i < 12; i++) {
            checks.due("new: isThere(" + i + ")", desk.isThere(i), false);
        }
    }

    private static void installNumbers() {
        Entitled desk = new Entitled();
        checks.due("least install", desk.install(0, 1, 1, 0, 0, 1, 0), 0);
        checks.due("greatest install", desk.install(3, 9, 3, 9, 9, 16, 2), 1);
        desk.retire(0);
        checks.due("a retired number is not used again", desk.install(0, 1, 1, 0, 0, 1, 0), 2);
        checks.due("installs()", desk.installs(), 2);
        Entitled other = new Entitled();
        checks.due("desks share nothing", other.installs(), 0);
    }

    private static void installRanges() {
        int[] least = {0, 1, 1, 0, 0, 1, 0};
        int[] most = {3, 9, 3, 9, 9, 16, 2};
        for (int at = 0; at < least.length; at++) {
            refuse(least, at, least[at] - 1);
            refuse(least, at, most[at] + 1);
            refuse(most, at, Integer.MIN_VALUE);
            refuse(most, at, Integer.MAX_VALUE);
        }
    }

    private static void refuse(int[] values, int at, int value) {
        int[] v = values.clone();
        v[at] = value;
        Entitled desk = deskWithOne();
        checks.thrownAndUnchanged("install with value " + at + " of " + value, Checks.RANGE, desk,
                () -> desk.install(v[0], v[1], v[2], v[3], v[4], v[5], v[6]));
        checks.due("the next number", desk.install(0, 1, 1, 0, 0, 1, 0), 1);
    }

    private static void installLimits() {
        Entitled desk = new Entitled();
        for (int i = 0; i < 6; i++) {
            checks.due("install " + i, desk.install(0, 1, 1, 0, 0, 1, 0), i);
        }
        checks.thrownAndUnchanged("a seventh there", Checks.STATE, desk, () -> desk.install(0, 1, 1, 0, 0, 1, 0));
        checks.thrown("a seventh out of range", Checks.RANGE, () -> desk.install(4, 1, 1, 0, 0, 1, 0));
        for (int i = 0; i < 6; i++) {
            checks.due("retire " + i, desk.retire(i), 5);
            checks.due("install " + (i + 6), desk.install(0, 1, 1, 0, 0, 1, 0), i + 6);
        }
        desk.retire(11);
        checks.thrownAndUnchanged("a thirteenth", Checks.STATE, desk, () -> desk.install(0, 1, 1, 0, 0, 1, 0));
        checks.thrown("a thirteenth out of range", Checks.RANGE, () -> desk.install(0, 0, 1, 0, 0, 1, 0));
    }

    private static void retire() {
        Entitled desk = deskWithOne();
        desk.install(1, 5, 2, 3, 4, 8, 1);
        for (int bad : BAD_INDEXES) {
            checks.thrownAndUnchanged("retire " + bad, Checks.INDEX, desk, () -> desk.retire(bad));
        }
        checks.thrown("retire 2, not made", Checks.INDEX, () -> desk.retire(2));
        checks.due("retire 0", desk.retire(0), 1);
        checks.thrownAndUnchanged("retire 0 again", Checks.INDEX, desk, () -> desk.retire(0));
        checks.due("retire 1", desk.retire(1), 0);
        checks.due("installs()", desk.installs(), 0);
    }

    private static void moveTo() {
        Entitled desk = deskWithOne();
        desk.entitle(15, 5, 2, 'd', 9, -1);
        desk.entitle(15, 5, 2, 'u', 9, -1);
        desk.install(1, 5, 2, 0, 0, 8, 1);
        checks.due("units for devices", desk.unitsForAll(0), 2);
        checks.due("moveTo answers the device before", desk.moveTo(0, 0, 9), 3);
        checks.due("moveTo to the greatest", desk.moveTo(0, 9, 0), 0);
        checks.due("units for two devices", desk.unitsForAll(0), 2);
        checks.due("units for one user", desk.unitsForAll(1), 2);
        checks.due("moveTo to the same", desk.moveTo(0, 9, 0), 9);
        desk.entitle(2, 5, 2, 'd', 9, -1);
        desk.install(2, 5, 2, 9, 0, 8, 1);
        checks.due("another product on the device", desk.unitsForAll(0), 2);
        checks.due("another product of the user", desk.unitsForAll(1), 2);
        desk.retire(2);
        desk.entitle(15, 5, 2, 'u', 9, -1);
        desk.setRights(3, false, false, true);
        checks.due("a second use of one user", desk.unitsForAll(3), 1);
        desk.moveTo(0, 9, 1);
        checks.due("two users", desk.unitsForAll(3), 2);
        for (int[] bad : new int[][] {{-1, 0}, {10, 0}, {0, -1}, {0, 10}, {Integer.MAX_VALUE, Integer.MIN_VALUE}}) {
            checks.thrownAndUnchanged("moveTo " + bad[0] + ", " + bad[1], Checks.RANGE, desk,
                    () -> desk.moveTo(0, bad[0], bad[1]));
            checks.due("the device stays", desk.moveTo(0, 9, 1), 9);
        }
        for (int bad : BAD_INDEXES) {
            checks.thrownAndUnchanged("moveTo of " + bad, Checks.INDEX, desk, () -> desk.moveTo(bad, 10, 10));
        }
        desk.retire(0);
        checks.thrown("moveTo of a retired one", Checks.INDEX, () -> desk.moveTo(0, 10, 10));
    }

    private static void setVersion() {
        Entitled desk = deskWithOne();
        desk.entitle(15, 5, 2, 'd', 9, -1);
        checks.due("fits at first", desk.why(0, 0), '-');
        checks.due("setVersion answers the version before", desk.setVersion(0, 1, 2), 5);
        checks.due("the version is set", desk.why(0, 0), 'v');
        checks.due("setVersion to the greatest", desk.setVersion(0, 9, 3), 1);
        checks.due("the edition is set", desk.why(0, 0), 'e');
        checks.due("setVersion to the least", desk.setVersion(0, 1, 1), 9);
        int[][] badOnes = {{0, 1}, {10, 1}, {1, 0}, {1, 4}, {Integer.MIN_VALUE, 1}, {1, Integer.MAX_VALUE}};
        for (int[] bad : badOnes) {
            checks.thrownAndUnchanged("setVersion " + bad[0] + ", " + bad[1], Checks.RANGE, desk,
                    () -> desk.setVersion(0, bad[0], bad[1]));
            checks.due("the version stays", desk.setVersion(0, 1, 1), 1);
        }
        for (int bad : BAD_INDEXES) {
            checks.thrown("setVersion of " + bad, Checks.INDEX, () -> desk.setVersion(bad, 0, 0));
        }
        desk.retire(0);
        checks.thrown("setVersion of a retired one", Checks.INDEX, () -> desk.setVersion(0, 0, 0));
    }

    private static void setPool() {
        Entitled desk = deskWithOne();
        desk.entitle(15, 5, 2, 'd', 9, 1);
        checks.due("setPool answers the pool before", desk.setPool(0, 2), 1);
        checks.due("the pool is set", desk.why(0, 0), 'o');
        checks.due("setPool to the least", desk.setPool(0, 0), 2);
        checks.due("setPool back", desk.setPool(0, 1), 0);
        checks.due("it fits again", desk.why(0, 0), '-');
        for (int bad : new int[] {-1, 3, Integer.MIN_VALUE, Integer.MAX_VALUE}) {
            checks.thrownAndUnchanged("setPool " + bad, Checks.RANGE, desk, () -> desk.setPool(0, bad));
            checks.due("the pool stays", desk.setPool(0, 1), 1);
        }
        for (int bad : BAD_INDEXES) {
            checks.thrown("setPool of " + bad, Checks.INDEX, () -> desk.setPool(bad, 3));
        }
        desk.retire(0);
        checks.thrown("setPool of a retired one", Checks.INDEX, () -> desk.setPool(0, 3));
    }

    private static void isThere() {
        Entitled desk = deskWithOne();
        checks.due("isThere(0)", desk.isThere(0), true);
        checks.due("isThere(1), not made", desk.isThere(1), false);
        desk.retire(0);
        checks.due("isThere(0), retired", desk.isThere(0), false);
        for (int bad : BAD_INDEXES) {
            checks.due("isThere(" + bad + ")", desk.isThere(bad), false);
        }
    }
}
