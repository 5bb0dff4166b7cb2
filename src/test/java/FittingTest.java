/** Promises 15 to 18: which entitlements fit an install, and what they need for all that they fit. */
public final class FittingTest {
    private static final Checks checks = new Checks();

    public static void main(String[] args) {
        products();
        pools();
        editionsAndVersions();
        orderOfReasons();
        wrongNumbers();
        fittingAndFirst();
        unitsForDevices();
        unitsForUsers();
        unitsForCores();
        unitsForTheFittingAlone();
        checks.end();
    }

    private static void products() {
        for (int set = 1; set <= 15; set++) {
            Entitled desk = new Entitled();
            desk.entitle(set, 5, 2, 'd', 1, -1);
            for (int product = 0; product < 4; product++) {
                desk.install(product, 5, 2, 0, 0, 1, 0);
                boolean in = set / (1 << product) % 2 == 1;
                checks.due("product " + product + " in " + set, desk.why(product, 0), in ? '-' : 'p');
            }
        }
    }

    private static void pools() {
        for (int its = -1; its <= 2; its++) {
            Entitled desk = new Entitled();
            desk.entitle(1, 5, 2, 'd', 1, its);
            for (int pool = 0; pool < 3; pool++) {
                desk.install(0, 5, 2, 0, 0, 1, pool);
                boolean in = its == -1 || its == pool;
                checks.due("pool " + pool + " for " + its, desk.why(pool, 0), in ? '-' : 'o');
            }
        }
    }

    private static void editionsAndVersions() {
        // Rights: none, down, up, both. The edition is looked at before the version; up never helps an edition.
        String[] lowerEdition = {"eee", "--v", "eee", "---"};
        String[] sameEdition = {"v-v", "--v", "v--", "---"};
        String[] greaterEdition = {"eee", "eee", "eee", "eee"};
        String[][] due = {lowerEdition, sameEdition, greaterEdition};
        for (int rights = 0; rights < 4; rights++) {
            for (int edition = 1; edition <= 3; edition++) {
                for (int version = 4; version <= 6; version++) {
                    Entitled desk = new Entitled();
                    desk.entitle(1, 5, 2, 'd', 1, -1);
                    desk.setRights(0, rights % 2 == 1, rights / 2 == 1, true);
                    desk.install(0, version, edition, 0, 0, 1, 0);
                    checks.due("edition " + edition + ", version " + version + ", rights " + rights,
                            desk.why(0, 0), due[edition - 1][rights].charAt(version - 4));
                }
            }
        }
    }

    private static void orderOfReasons() {
        Entitled desk = new Entitled();
        desk.entitle(2, 5, 2, 'd', 1, 1);
        desk.entitle(1, 5, 2, 'd', 1, 1);
        desk.entitle(1, 5, 2, 'd', 1, 0);
        desk.entitle(1, 5, 3, 'd', 1, 0);
        desk.entitle(1, 9, 3, 'd', 1, 0);
        desk.install(0, 9, 3, 0, 0, 1, 0);
        checks.due("all four", desk.why(0, 0), 'p');
        checks.due("all but the product", desk.why(0, 1), 'o');
        checks.due("edition and version", desk.why(0, 2), 'e');
        checks.due("the version alone", desk.why(0, 3), 'v');
        checks.due("none", desk.why(0, 4), '-');
    }

    private static void wrongNumbers() {
        Entitled desk = new Entitled();
        desk.entitle(1, 5, 2, 'd', 1, -1);
        desk.install(0, 5, 2, 0, 0, 1, 0);
        desk.install(0, 5, 2, 0, 0, 1, 0);
        desk.retire(1);
        for (int bad : new int[] {-1, 1, 2, 11, 12, Integer.MIN_VALUE, Integer.MAX_VALUE}) {
            checks.thrownAndUnchanged("why(" + bad + ", 0)", Checks.INDEX, desk, () -> desk.why(bad, 0));
            checks.thrown("fitting(" + bad + ")", Checks.INDEX, () -> desk.fitting(bad));
            checks.thrown("firstFitting(" + bad + ")", Checks.INDEX, () -> desk.firstFitting(bad));
        }
        for (int bad : new int[] {-1, 1, 4, 5, Integer.MIN_VALUE, Integer.MAX_VALUE}) {
            checks.thrownAndUnchanged("why(0, " + bad + ")", Checks.INDEX, desk, () -> desk.why(0, bad));
            checks.thrown("unitsForAll(" + bad + ")", Checks.INDEX, () -> desk.unitsForAll(bad));
        }
    }

    private static void fittingAndFirst() {
        Entitled desk = new Entitled();
        desk.install(0, 5, 2, 0, 0, 1, 0);
        desk.install(1, 5, 2, 0, 0, 1, 0);
        checks.due("fitting without entitlements", desk.fitting(0), 0);
        checks.thrown("firstFitting without entitlements", Checks.NONE, () -> desk.firstFitting(0));
        desk.entitle(1, 5, 1, 'd', 0, -1);
        checks.thrownAndUnchanged("firstFitting with none that fits", Checks.NONE, desk, () -> desk.firstFitting(0));
        desk.entitle(3, 5, 2, 'u', 0, -1);
        desk.entitle(1, 5, 2, 'c', 0, -1);
        desk.entitle(1, 5, 2, 'd', 0, 1);
        desk.entitle(3, 5, 2, 'd', 0, 0);
        checks.due("fitting(0)", desk.fitting(0), 3);
        checks.due("fitting(1)", desk.fitting(1), 2);
        checks.due("firstFitting(0)", desk.firstFitting(0), 1);
        desk.setRights(0, true, false, false);
        checks.due("firstFitting(0), the edition of 0 is still lower", desk.firstFitting(0), 1);
        desk.setVersion(0, 5, 1);
        checks.due("firstFitting(0) then", desk.firstFitting(0), 0);
        checks.due("fitting(0) then", desk.fitting(0), 1);
    }

    private static void unitsForDevices() {
        Entitled desk = new Entitled();
        desk.entitle(15, 5, 2, 'd', 0, -1);
        checks.due("no installs", desk.unitsForAll(0), 0);
        desk.install(0, 5, 2, 0, 0, 16, 0);
        desk.install(1, 5, 2, 0, 1, 16, 0);
        desk.install(3, 5, 2, 0, 2, 16, 0);
        checks.due("a bundle on one device", desk.unitsForAll(0), 1);
        desk.install(3, 5, 2, 0, 3, 16, 0);
        checks.due("one product twice on the device", desk.unitsForAll(0), 2);
        desk.install(3, 5, 2, 9, 0, 16, 0);
        checks.due("another device", desk.unitsForAll(0), 3);
        desk.setRights(0, false, false, true);
        checks.due("second use is for users alone", desk.unitsForAll(0), 3);
        desk.retire(2);
        checks.due("a retired one needs nothing", desk.unitsForAll(0), 2);
    }

    private static void unitsForUsers() {
        Entitled desk = new Entitled();
        desk.entitle(15, 5, 2, 'u', 0, -1);
        desk.entitle(15, 5, 2, 'u', 0, -1);
        desk.setRights(1, false, false, true);
        int[] product = {0, 0, 0, 1, 0, 0};
        int[] user = {9, 9, 9, 9, 9, 0};
        int[] without = {1, 2, 3, 3, 4, 5};
        int[] with = {1, 1, 2, 2, 2, 3};
        for (int i = 0; i < 6; i++) {
            desk.install(product[i], 5, 2, i, user[i], 16, 0);
            checks.due("without second use, " + (i + 1) + " installs", desk.unitsForAll(0), without[i]);
            checks.due("with second use, " + (i + 1) + " installs", desk.unitsForAll(1), with[i]);
        }
    }

    private static void unitsForCores() {
        Entitled desk = new Entitled();
        desk.entitle(15, 5, 2, 'c', 0, -1);
        desk.setRights(0, false, false, true);
        for (int i = 0; i < 6; i++) {
            desk.install(0, 5, 2, 0, 0, 16, 0);
        }
        checks.due("the greatest sum", desk.unitsForAll(0), 96);
        desk.retire(5);
        desk.install(0, 5, 2, 0, 0, 1, 0);
        checks.due("one core", desk.unitsForAll(0), 81);
        desk.setMinimum(0, 3);
        checks.due("at least three for each", desk.unitsForAll(0), 83);
    }

    private static void unitsForTheFittingAlone() {
        Entitled desk = new Entitled();
        desk.entitle(1, 5, 2, 'd', 0, 0);
        desk.install(0, 5, 2, 0, 0, 1, 0);
        desk.install(1, 5, 2, 1, 1, 1, 0);
        desk.install(0, 5, 2, 2, 2, 1, 1);
        desk.install(0, 5, 3, 3, 3, 1, 0);
        desk.install(0, 4, 2, 4, 4, 1, 0);
        checks.due("the one that it fits", desk.unitsForAll(0), 1);
        checks.due("a second time", desk.unitsForAll(0), 1);
    }
}
