/** Promises 9 to 14: entitlements. */
public final class EntitlementsTest {
    private static final int[] BAD_INDEXES = {-1, 1, 4, 5, 6, Integer.MIN_VALUE, Integer.MAX_VALUE};

    private static final Checks checks = new Checks();

    public static void main(String[] args) {
        entitleNumbers();
        entitleRanges();
        entitleLimit();
        setRights();
        setMinimum();
        setPrice();
        addUnits();
        units();
        checks.end();
    }

    private static Entitled deskWithOne(char metric) {
        Entitled desk = new Entitled();
        desk.entitle(15, 5, 2, metric, 2, -1);
        return desk;
    }

    private static void entitleNumbers() {
        Entitled desk = new Entitled();
        checks.due("least entitlement", desk.entitle(1, 1, 1, 'd', 0, -1), 0);
        checks.due("greatest entitlement", desk.entitle(15, 9, 3, 'u', 99, 2), 1);
        checks.due("of cores", desk.entitle(8, 5, 2, 'c', 50, 0), 2);
        checks.due("its units", desk.units(0), 0);
        checks.due("its units", desk.units(1), 99);
        checks.due("its units", desk.units(2), 50);
        checks.due("the first minimum", desk.setMinimum(2, 2), 1);
        checks.due("the first price", desk.setPrice(2, 2), 10);
        checks.due("the first rights", desk.setRights(2, false, false, false), 0);
    }

    private static void entitleRanges() {
        int[] least = {1, 1, 1, 'd', 0, -1};
        int[] most = {15, 9, 3, 'u', 99, 2};
        for (int at = 0; at < least.length; at++) {
            if (at != 3) {
                refuse(least, at, least[at] - 1);
                refuse(least, at, most[at] + 1);
                refuse(most, at, Integer.MIN_VALUE);
                refuse(most, at, Integer.MAX_VALUE);
            }
        }
        for (char bad : new char[] {0, 'a', 'b', 'e', 't', 'v', 'C', 'D', 'U', '-', 255, Character.MAX_VALUE}) {
            refuse(least, 3, bad);
        }
    }

    private static void refuse(int[] values, int at, int value) {
        int[] v = values.clone();
        v[at] = value;
        Entitled desk = deskWithOne('d');
        checks.thrownAndUnchanged("entitle with value " + at + " of " + value, Checks.RANGE, desk,
                () -> desk.entitle(v[0], v[1], v[2], (char) v[3], v[4], v[5]));
        checks.due("the next number", desk.entitle(1, 1, 1, 'd', 0, 0), 1);
    }

    private static void entitleLimit() {
        Entitled desk = new Entitled();
        for (int e = 0; e < 5; e++) {
            checks.due("entitle " + e, desk.entitle(1, 1, 1, 'd', e, 0), e);
        }
        checks.thrownAndUnchanged("a sixth", Checks.STATE, desk, () -> desk.entitle(1, 1, 1, 'd', 9, 0));
        checks.thrown("a sixth out of range", Checks.RANGE, () -> desk.entitle(0, 1, 1, 'd', 9, 0));
        checks.due("the last units", desk.units(4), 4);
    }

    private static void setRights() {
        Entitled desk = deskWithOne('u');
        checks.due("none before", desk.setRights(0, true, false, false), 0);
        checks.due("down before", desk.setRights(0, false, true, false), 1);
        checks.due("up before", desk.setRights(0, false, false, true), 1);
        checks.due("second before", desk.setRights(0, true, true, false), 1);
        checks.due("down and up before", desk.setRights(0, true, true, true), 2);
        checks.due("all before", desk.setRights(0, false, false, false), 3);
        checks.due("none again", desk.setRights(0, false, false, false), 0);
        desk.install(0, 4, 1, 0, 0, 1, 0);
        desk.install(0, 6, 2, 0, 0, 1, 0);
        desk.setRights(0, true, false, false);
        checks.due("down lets the lower in", desk.why(0, 0), '-');
        checks.due("down keeps the greater out", desk.why(1, 0), 'v');
        desk.setRights(0, false, true, false);
        checks.due("up keeps the lower out", desk.why(0, 0), 'e');
        checks.due("up lets the greater in", desk.why(1, 0), '-');
        desk.setRights(0, true, true, false);
        checks.due("two uses", desk.unitsForAll(0), 2);
        desk.setRights(0, true, true, true);
        checks.due("a second use", desk.unitsForAll(0), 1);
        for (int bad : BAD_INDEXES) {
            checks.thrownAndUnchanged("setRights of " + bad, Checks.INDEX, desk,
                    () -> desk.setRights(bad, false, false, false));
        }
    }

    private static void setMinimum() {
        Entitled desk = deskWithOne('c');
        desk.install(0, 5, 2, 0, 0, 4, 0);
        checks.due("cores above the minimum", desk.unitsForAll(0), 4);
        checks.due("the first minimum", desk.setMinimum(0, 16), 1);
        checks.due("cores below the minimum", desk.unitsForAll(0), 16);
        checks.due("the minimum before", desk.setMinimum(0, 4), 16);
        checks.due("cores at the minimum", desk.unitsForAll(0), 4);
        for (int bad : new int[] {0, 17, -1, Integer.MIN_VALUE, Integer.MAX_VALUE}) {
            checks.thrownAndUnchanged("setMinimum " + bad, Checks.RANGE, desk, () -> desk.setMinimum(0, bad));
        }
        checks.due("the minimum stays", desk.setMinimum(0, 1), 4);
        for (int bad : BAD_INDEXES) {
            checks.thrownAndUnchanged("setMinimum of " + bad, Checks.INDEX, desk, () -> desk.setMinimum(bad, 0));
        }
        for (char metric : new char[] {'d', 'u'}) {
            Entitled other = deskWithOne(metric);
            checks.thrownAndUnchanged("setMinimum for " + metric, Checks.UNSUPPORTED, other,
                    () -> other.setMinimum(0, 16));
            checks.thrown("setMinimum for " + metric + " out of range", Checks.RANGE, () -> other.setMinimum(0, 17));
        }
    }

    private static void setPrice() {
        Entitled desk = deskWithOne('d');
        desk.install(0, 5, 2, 0, 0, 4, 0);
        desk.install(0, 5, 2, 0, 0, 4, 0);
        desk.install(0, 5, 2, 0, 0, 4, 0);
        checks.due("at the first price", desk.purchase(), 10);
        checks.due("the first price", desk.setPrice(0, 99), 10);
        checks.due("at the greatest price", desk.purchase(), 99);
        checks.due("the price before", desk.setPrice(0, 1), 99);
        checks.due("at the least price", desk.purchase(), 1);
        for (int bad : new int[] {0, 100, -1, Integer.MIN_VALUE, Integer.MAX_VALUE}) {
            checks.thrownAndUnchanged("setPrice " + bad, Checks.RANGE, desk, () -> desk.setPrice(0, bad));
        }
        checks.due("the price stays", desk.setPrice(0, 50), 1);
        for (int bad : BAD_INDEXES) {
            checks.thrownAndUnchanged("setPrice of " + bad, Checks.INDEX, desk, () -> desk.setPrice(bad, 0));
        }
    }

    private static void addUnits() {
        Entitled desk = deskWithOne('d');
        checks.due("the least added", desk.addUnits(0, 1), 3);
        checks.due("the greatest added", desk.addUnits(0, 99), 102);
        for (int bad : new int[] {0, 100, -1, Integer.MIN_VALUE, Integer.MAX_VALUE}) {
            checks.thrownAndUnchanged("addUnits " + bad, Checks.RANGE, desk, () -> desk.addUnits(0, bad));
        }
        for (int bad : BAD_INDEXES) {
            checks.thrownAndUnchanged("addUnits of " + bad, Checks.INDEX, desk, () -> desk.addUnits(bad, 0));
        }
        for (int i = 0; i < 9; i++) {
            desk.addUnits(0, 99);
        }
        checks.due("units then", desk.units(0), 993);
        checks.thrownAndUnchanged("addUnits to 1000", Checks.STATE, desk, () -> desk.addUnits(0, 7));
        checks.due("addUnits to 999", desk.addUnits(0, 6), 999);
        checks.thrownAndUnchanged("addUnits beyond 999", Checks.STATE, desk, () -> desk.addUnits(0, 1));
        checks.thrown("addUnits out of range before too many", Checks.RANGE, () -> desk.addUnits(0, 100));
    }

    private static void units() {
        Entitled desk = deskWithOne('d');
        checks.due("units", desk.units(0), 2);
        desk.addUnits(0, 5);
        checks.due("units after addUnits", desk.units(0), 7);
        for (int bad : BAD_INDEXES) {
            checks.thrown("units of " + bad, Checks.INDEX, () -> desk.units(bad));
        }
    }
}
