import java.io.IOException;

/** Promises 1 to 8: a new object, and its installs. Each sentence has a test of its own. */
public final class InstallsTest {
    private static final Checks checks = new Checks();

    public static void main(String[] args) throws IOException {
        Sentences document = new Sentences(checks);
        newObject(document);
        install(document);
        retire(document);
        moveTo(document);
        setVersion(document);
        setPool(document);
        installs(document);
        isThere(document);
        document.end();
        checks.end();
    }

    // ---- a new object ----

    private static void newObject(Sentences document) {
        document.section("Promise 1: A new object");
        document.test("Creates a desk without installs", InstallsTest::noInstalls);
        document.test("and entitlements.", InstallsTest::noEntitlements);
    }

    private static void noInstalls() {
        Entitled desk = new Entitled();
        checks.due("installs()", desk.installs(), 0);
        for (int i = 0; i < 12; i++) {
            checks.due("isThere(" + i + ")", desk.isThere(i), false);
        }
        checks.thrown("retire(0)", Checks.INDEX, () -> desk.retire(0));
        checks.due("covered()", desk.covered(), 0);
        checks.due("coveredByTrying()", desk.coveredByTrying(), 0);
        checks.due("purchase()", desk.purchase(), 0);
        checks.due("purchaseByTrying()", desk.purchaseByTrying(), 0);
        checks.due("trueUp()", desk.trueUp(), 0);
        checks.due("spent()", desk.spent(), 0L);
        checks.thrown("coverage()", Checks.NONE, desk::coverage);
        checks.due("the first install", Desks.put(desk, 0, 0, 0), 0);
        checks.due("desks share no installs", new Entitled().installs(), 0);
    }

    private static void noEntitlements() {
        Entitled desk = new Entitled();
        for (int e = 0; e < 5; e++) {
            int entitlement = e;
            checks.thrown("units(" + e + ")", Checks.INDEX, () -> desk.units(entitlement));
        }
        Desks.put(desk, 0, 0, 0);
        checks.due("fitting(0)", desk.fitting(0), 0);
        checks.due("covered()", desk.covered(), 0);
        checks.due("coverage()", desk.coverage(), 0.0f);
        checks.due("reason(0)", desk.reason(0), 'n');
        checks.thrown("purchase()", Checks.NONE, desk::purchase);
        checks.thrown("trueUp()", Checks.NONE, desk::trueUp);
        checks.due("the first entitlement", Desks.add(desk, 1, 'd', 0), 0);
        checks.thrown("desks share no entitlements", Checks.INDEX, () -> new Entitled().units(0));
    }

    // ---- install ----

    private static void install(Sentences document) {
        document.section("Promise 2: install");
        document.test("Makes an install.", InstallsTest::makesAnInstall);
        document.test("Returns the number of the install.", InstallsTest::numbersOfInstalls);
        document.test("Throws `IllegalArgumentException` if one of them is out of range", InstallsTest::installOutOfRange);
        document.test("Throws `IllegalStateException` if 6 installs are there", InstallsTest::sixAreThere);
        document.test("or 12 have been made", InstallsTest::twelveHaveBeenMade);
    }

    private static void makesAnInstall() {
        Entitled desk = new Entitled();
        desk.install(2, 6, 3, 7, 8, 9, 1);
        checks.due("isThere(0)", desk.isThere(0), true);
        checks.due("installs()", desk.installs(), 1);
        desk.entitle(4, 6, 3, 'c', 9, 1);
        checks.due("product, version, edition and pool", desk.why(0, 0), '-');
        checks.due("cores", desk.unitsForAll(0), 9);
        Desks.add(desk, 15, 'u', 0);
        desk.setRights(1, true, true, true);
        desk.install(2, 5, 2, 0, 0, 1, 0);
        checks.due("the edition keeps one user out", desk.unitsForAll(1), 1);
        desk.setVersion(0, 6, 2);
        checks.due("two users", desk.unitsForAll(1), 2);
        desk.moveTo(1, 0, 8);
        checks.due("the user", desk.unitsForAll(1), 1);
        checks.due("device", desk.moveTo(0, 0, 0), 7);
    }

    private static void numbersOfInstalls() {
        Entitled desk = new Entitled();
        checks.due("the least", desk.install(0, 1, 1, 0, 0, 1, 0), 0);
        checks.due("the greatest", desk.install(3, 9, 3, 9, 9, 16, 2), 1);
        desk.retire(1);
        desk.retire(0);
        checks.due("numbers of retired ones are not used again", Desks.put(desk, 0, 0, 0), 2);
        for (int i = 3; i < 12; i++) {
            checks.due("the next", Desks.put(desk, 0, 0, 0), i);
            desk.retire(i);
        }
    }

    private static void installOutOfRange() {
        int[] least = {0, 1, 1, 0, 0, 1, 0};
        int[] most = {3, 9, 3, 9, 9, 16, 2};
        for (int at = 0; at < least.length; at++) {
            refuseInstall(least, at, least[at] - 1);
            refuseInstall(least, at, most[at] + 1);
            refuseInstall(most, at, least[at] - 1);
            refuseInstall(most, at, most[at] + 1);
            refuseInstall(most, at, Integer.MIN_VALUE);
            refuseInstall(most, at, Integer.MAX_VALUE);
        }
    }

    private static void refuseInstall(int[] values, int at, int value) {
        int[] v = values.clone();
        v[at] = value;
        checks.refused("install with value " + at + " of " + value, Checks.RANGE, Desks::some,
                desk -> desk.install(v[0], v[1], v[2], v[3], v[4], v[5], v[6]));
    }

    private static void sixAreThere() {
        Entitled desk = new Entitled();
        for (int i = 0; i < 6; i++) {
            checks.due("with " + i + " there", Desks.put(desk, 0, 0, 0), i);
        }
        checks.thrown("with 6 there", Checks.STATE, () -> Desks.put(desk, 0, 0, 0));
        checks.refused("install with 6 of 6 there", Checks.STATE, Desks::sixThere, other -> Desks.put(other, 0, 0, 0));
        desk.retire(5);
        checks.due("with 5 there again", Desks.put(desk, 0, 0, 0), 6);
        checks.thrown("with 6 there again", Checks.STATE, () -> Desks.put(desk, 0, 0, 0));
    }

    private static void twelveHaveBeenMade() {
        Entitled desk = new Entitled();
        for (int i = 0; i < 11; i++) {
            Desks.put(desk, 0, 0, 0);
            desk.retire(i);
        }
        checks.due("with 11 made", Desks.put(desk, 0, 0, 0), 11);
        checks.thrown("with 12 made and one there", Checks.STATE, () -> Desks.put(desk, 0, 0, 0));
        checks.refused("install with 12 made, 6 there", Checks.STATE, Desks::full, other -> Desks.put(other, 0, 0, 0));
        checks.refused("install with 12 made, 3 there", Checks.STATE, Desks::twelveMade,
                other -> Desks.put(other, 0, 0, 0));
        checks.refused("install with 12 made, none there", Checks.STATE, Desks::allRetired,
                other -> Desks.put(other, 0, 0, 0));
    }

    // ---- retire ----

    private static void retire(Sentences document) {
        document.section("Promise 3: retire");
        document.test("Retires an install.", InstallsTest::retiresAnInstall);
        document.test("Returns the number of installs that are there then.", InstallsTest::installsThereThen);
        document.test("Throws `IndexOutOfBoundsException` if there is no such install",
                () -> checks.refusedOfNoInstall("retire", Entitled::retire));
        document.test("or it is retired", InstallsTest::retiredAlready);
    }

    private static void retiresAnInstall() {
        Entitled desk = new Entitled();
        Desks.add(desk, 1, 'd', 2);
        Desks.put(desk, 0, 0, 0);
        Desks.put(desk, 0, 1, 0);
        Desks.put(desk, 0, 2, 0);
        desk.retire(1);
        checks.due("isThere(0)", desk.isThere(0), true);
        checks.due("isThere(1)", desk.isThere(1), false);
        checks.due("isThere(2)", desk.isThere(2), true);
        checks.due("entitlementOf(2)", desk.entitlementOf(2), 0);
        checks.due("unitsForAll(0)", desk.unitsForAll(0), 2);
        checks.due("coverage()", desk.coverage(), 1.0f);
    }

    private static void installsThereThen() {
        Entitled desk = new Entitled();
        for (int i = 0; i < 6; i++) {
            Desks.put(desk, 0, 0, 0);
        }
        for (int left = 5; left >= 0; left--) {
            checks.due("retire(" + left + ")", desk.retire(left), left);
            checks.due("installs()", desk.installs(), left);
        }
        Desks.put(desk, 0, 0, 0);
        checks.due("retire(6)", desk.retire(6), 0);
    }

    private static void retiredAlready() {
        checks.refusedOfRetired("retire", Entitled::retire);
        Entitled desk = new Entitled();
        Desks.put(desk, 0, 0, 0);
        desk.retire(0);
        checks.thrown("retire(0) again", Checks.INDEX, () -> desk.retire(0));
        checks.due("installs()", desk.installs(), 0);
    }

    // ---- moveTo ----

    private static void moveTo(Sentences document) {
        document.section("Promise 4: moveTo");
        document.test("Moves an install to another device and user.", InstallsTest::movesAnInstall);
        document.test("Returns the device before.", InstallsTest::deviceBefore);
        document.test("Throws `IndexOutOfBoundsException` if there is no such install",
                () -> checks.refusedOfNoInstall("moveTo", (desk, number) -> desk.moveTo(number, 5, 5)));
        document.test("or it is retired",
                () -> checks.refusedOfRetired("moveTo", (desk, number) -> desk.moveTo(number, 5, 5)));
        document.test("Throws `IllegalArgumentException` if one of them is out of range", InstallsTest::moveOutOfRange);
    }

    private static void movesAnInstall() {
        Entitled desk = new Entitled();
        Desks.add(desk, 15, 'd', 9);
        Desks.add(desk, 15, 'u', 9);
        Desks.put(desk, 1, 3, 4);
        Desks.put(desk, 1, 0, 0);
        desk.setRights(1, false, false, true);
        checks.due("units of two users", desk.unitsForAll(1), 2);
        desk.moveTo(0, 9, 0);
        checks.due("units of one user", desk.unitsForAll(1), 1);
        Desks.put(desk, 2, 9, 9);
        checks.due("units of two devices", desk.unitsForAll(0), 2);
        checks.due("units of two users again", desk.unitsForAll(1), 2);
        desk.moveTo(2, 8, 0);
        checks.due("units of three devices", desk.unitsForAll(0), 3);
        checks.due("units of one user again", desk.unitsForAll(1), 1);
        desk.moveTo(2, 9, 9);
        desk.moveTo(2, 9, 9);
        checks.due("moved to where it is", desk.unitsForAll(0), 2);
        checks.due("the others stay", desk.moveTo(1, 1, 1), 0);
    }

    private static void deviceBefore() {
        Entitled desk = new Entitled();
        Desks.put(desk, 0, 3, 7);
        checks.due("to the least", desk.moveTo(0, 0, 9), 3);
        checks.due("to the greatest", desk.moveTo(0, 9, 0), 0);
        checks.due("to the same", desk.moveTo(0, 9, 5), 9);
        checks.due("and once more", desk.moveTo(0, 4, 5), 9);
    }

    private static void moveOutOfRange() {
        for (int bad : new int[] {-1, 10, Integer.MIN_VALUE, Integer.MAX_VALUE}) {
            checks.refused("moveTo the device " + bad, Checks.RANGE, Desks::some, desk -> desk.moveTo(0, bad, 0));
            checks.refused("moveTo the user " + bad, Checks.RANGE, Desks::some, desk -> desk.moveTo(0, 0, bad));
            checks.refused("moveTo both " + bad, Checks.RANGE, Desks::some, desk -> desk.moveTo(3, bad, bad));
        }
    }

    // ---- setVersion ----

    private static void setVersion(Sentences document) {
        document.section("Promise 5: setVersion");
        document.test("Sets the version and the edition of an install.", InstallsTest::setsVersionAndEdition);
        document.test("Returns the version before.", InstallsTest::versionBefore);
        document.test("Throws `IndexOutOfBoundsException` if there is no such install",
                () -> checks.refusedOfNoInstall("setVersion", (desk, number) -> desk.setVersion(number, 9, 3)));
        document.test("or it is retired",
                () -> checks.refusedOfRetired("setVersion", (desk, number) -> desk.setVersion(number, 9, 3)));
        document.test("Throws `IllegalArgumentException` if one of them is out of range",
                InstallsTest::versionOutOfRange);
    }

    private static void setsVersionAndEdition() {
        Entitled desk = new Entitled();
        Desks.put(desk, 0, 0, 0);
        Desks.put(desk, 0, 0, 0);
        desk.entitle(1, 9, 3, 'd', 9, -1);
        desk.entitle(1, 1, 1, 'd', 9, -1);
        desk.setVersion(0, 9, 3);
        checks.due("the greatest fit", desk.why(0, 0), '-');
        desk.setVersion(0, 8, 3);
        checks.due("a lower version", desk.why(0, 0), 'v');
        desk.setVersion(0, 9, 2);
        checks.due("a lower edition", desk.why(0, 0), 'e');
        desk.setVersion(0, 1, 1);
        checks.due("the least fit", desk.why(0, 1), '-');
        desk.setVersion(0, 2, 1);
        checks.due("a greater version", desk.why(0, 1), 'v');
        desk.setVersion(0, 1, 2);
        checks.due("a greater edition", desk.why(0, 1), 'e');
        checks.due("the others stay", desk.setVersion(1, 1, 1), 5);
    }

    private static void versionBefore() {
        Entitled desk = new Entitled();
        desk.install(0, 7, 1, 0, 0, 1, 0);
        checks.due("to the least", desk.setVersion(0, 1, 3), 7);
        checks.due("to the greatest", desk.setVersion(0, 9, 1), 1);
        checks.due("to the same", desk.setVersion(0, 9, 2), 9);
        checks.due("and once more", desk.setVersion(0, 4, 2), 9);
    }

    private static void versionOutOfRange() {
        for (int bad : new int[] {0, 10, -1, Integer.MIN_VALUE, Integer.MAX_VALUE}) {
            checks.refused("setVersion to " + bad, Checks.RANGE, Desks::some, desk -> desk.setVersion(0, bad, 2));
        }
        for (int bad : new int[] {0, 4, -1, Integer.MIN_VALUE, Integer.MAX_VALUE}) {
            checks.refused("setVersion to the edition " + bad, Checks.RANGE, Desks::some,
                    desk -> desk.setVersion(0, 6, bad));
            checks.refused("setVersion with both of " + bad, Checks.RANGE, Desks::some,
                    desk -> desk.setVersion(3, bad == 4 ? 10 : bad, bad));
        }
    }

    // ---- setPool ----

    private static void setPool(Sentences document) {
        document.section("Promise 6: setPool");
        document.test("Puts an install into a pool.", InstallsTest::putsIntoPool);
        document.test("Returns the pool before.", InstallsTest::poolBefore);
        document.test("Throws `IndexOutOfBoundsException` if there is no such install",
                () -> checks.refusedOfNoInstall("setPool", (desk, number) -> desk.setPool(number, 2)));
        document.test("or it is retired",
                () -> checks.refusedOfRetired("setPool", (desk, number) -> desk.setPool(number, 2)));
        document.test("Throws `IllegalArgumentException` if it is not between 0 and 2", InstallsTest::poolOutOfRange);
    }

    private static void putsIntoPool() {
        Entitled desk = new Entitled();
        Desks.put(desk, 0, 0, 0);
        Desks.put(desk, 0, 0, 0);
        for (int pool = 0; pool < 3; pool++) {
            desk.entitle(1, 5, 2, 'd', 9, pool);
        }
        for (int pool = 2; pool >= 0; pool--) {
            desk.setPool(0, pool);
            for (int its = 0; its < 3; its++) {
                checks.due("in the pool " + pool + " for " + its, desk.why(0, its), its == pool ? '-' : 'o');
            }
        }
        desk.setPool(0, 1);
        checks.due("the others stay", desk.setPool(1, 2), 0);
    }

    private static void poolBefore() {
        Entitled desk = new Entitled();
        desk.install(0, 5, 2, 0, 0, 1, 1);
        checks.due("to the greatest", desk.setPool(0, 2), 1);
        checks.due("to the least", desk.setPool(0, 0), 2);
        checks.due("to the same", desk.setPool(0, 0), 0);
        checks.due("and once more", desk.setPool(0, 1), 0);
    }

    private static void poolOutOfRange() {
        for (int bad : new int[] {-1, 3, Integer.MIN_VALUE, Integer.MAX_VALUE}) {
            checks.refused("setPool to " + bad, Checks.RANGE, Desks::some, desk -> desk.setPool(0, bad));
        }
    }

    // ---- installs ----

    private static void installs(Sentences document) {
        document.section("Promise 7: installs");
        document.test("Returns the number of installs that are there.", InstallsTest::installsThatAreThere);
        document.test("Returns the number of installs.", InstallsTest::installsAfterRefusedCalls);
    }

    private static void installsThatAreThere() {
        Entitled desk = new Entitled();
        checks.due("at first", desk.installs(), 0);
        for (int i = 0; i < 6; i++) {
            Desks.put(desk, 0, 0, 0);
            checks.due("with " + (i + 1), desk.installs(), i + 1);
        }
        for (int i = 0; i < 6; i++) {
            desk.retire(i);
            checks.due("with one retired", desk.installs(), 5);
            Desks.put(desk, 0, 0, 0);
            checks.due("with another one made", desk.installs(), 6);
        }
        for (int i = 6; i < 12; i++) {
            desk.retire(i);
            checks.due("behind retire(" + i + ")", desk.installs(), 11 - i);
        }
    }

    private static void installsAfterRefusedCalls() {
        Entitled desk = Desks.sixThere();
        checks.thrown("a seventh", Checks.STATE, () -> Desks.put(desk, 0, 0, 0));
        checks.due("behind a refused install", desk.installs(), 6);
        checks.thrown("retire(6)", Checks.INDEX, () -> desk.retire(6));
        checks.due("behind a refused retire", desk.installs(), 6);
    }

    // ---- isThere ----

    private static void isThere(Sentences document) {
        document.section("Promise 8: isThere");
        document.test("Tells whether an install was made", InstallsTest::wasMade);
        document.test("and is not retired.", InstallsTest::isNotRetired);
        document.test("Returns true if so.", InstallsTest::answersForEveryNumber);
    }

    private static void wasMade() {
        Entitled desk = new Entitled();
        for (int i = 0; i < 6; i++) {
            checks.due("isThere(" + i + ") before", desk.isThere(i), false);
            Desks.put(desk, 0, 0, 0);
            checks.due("isThere(" + i + ") behind", desk.isThere(i), true);
        }
    }

    private static void isNotRetired() {
        Entitled desk = new Entitled();
        for (int i = 0; i < 12; i++) {
            Desks.put(desk, 0, 0, 0);
            checks.due("isThere(" + i + ")", desk.isThere(i), true);
            desk.retire(i);
            checks.due("isThere(" + i + "), retired", desk.isThere(i), false);
        }
    }

    private static void answersForEveryNumber() {
        Entitled desk = Desks.full();
        for (int i = -20; i < 270; i++) {
            checks.due("isThere(" + i + ")", desk.isThere(i), i >= 6 && i < 12);
        }
        for (int i : new int[] {Integer.MIN_VALUE, Integer.MIN_VALUE + 6, -65530, 65542, Integer.MAX_VALUE}) {
            checks.due("isThere(" + i + ")", desk.isThere(i), false);
        }
    }
}
