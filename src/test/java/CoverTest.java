/** Promises 19 to 24: the cover. */
public final class CoverTest {
    private static final Checks checks = new Checks();

    public static void main(String[] args) {
        mostInstalls();
        lowestNumbersFirst();
        noneOnlyIfThereIsNoOtherWay();
        countBeforeOrder();
        sharedUnits();
        trying();
        answersOfOneInstall();
        usedAndSpare();
        wrongNumbers();
        retiredAndLateInstalls();
        lastNumbers();
        checks.end();
    }

    private static void dueCover(String text, Entitled desk, int... due) {
        int count = 0;
        for (int i = 0; i < due.length; i++) {
            int install = i;
            String call = text + ": entitlementOf(" + i + ")";
            if (due[i] < 0) {
                checks.thrown(call, Checks.NONE, () -> desk.entitlementOf(install));
            } else {
                count++;
                checks.due(call, desk.entitlementOf(i), due[i]);
            }
        }
        checks.due(text + ": covered()", desk.covered(), count);
        if (due.length <= 4) {
            checks.due(text + ": coveredByTrying()", desk.coveredByTrying(), count);
        }
    }

    private static void mostInstalls() {
        Entitled desk = new Entitled();
        desk.entitle(1, 5, 2, 'c', 4, -1);
        desk.install(0, 5, 2, 0, 0, 4, 0);
        desk.install(0, 5, 2, 0, 0, 2, 0);
        desk.install(0, 5, 2, 0, 0, 2, 0);
        dueCover("two small ones for a large one", desk, -1, 0, 0);
        desk.addUnits(0, 1);
        dueCover("a unit too few", desk, -1, 0, 0);
        desk.addUnits(0, 3);
        dueCover("units for all", desk, 0, 0, 0);
    }

    private static void lowestNumbersFirst() {
        Entitled desk = new Entitled();
        desk.entitle(1, 5, 2, 'd', 1, -1);
        desk.entitle(1, 5, 2, 'd', 1, -1);
        desk.install(0, 5, 2, 0, 0, 1, 0);
        desk.install(0, 5, 2, 1, 0, 1, 0);
        dueCover("each its own", desk, 0, 1);
        desk.addUnits(0, 1);
        dueCover("both the first", desk, 0, 0);
        desk.setPool(0, 1);
        dueCover("the pool of the install does not matter", desk, 0, 0);
    }

    private static void noneOnlyIfThereIsNoOtherWay() {
        Entitled desk = new Entitled();
        desk.entitle(1, 5, 2, 'd', 1, -1);
        desk.install(0, 5, 2, 0, 0, 1, 0);
        desk.install(0, 5, 2, 1, 0, 1, 0);
        desk.install(0, 5, 2, 2, 0, 1, 0);
        dueCover("the first of three", desk, 0, -1, -1);
        desk.addUnits(0, 1);
        dueCover("the first two of three", desk, 0, 0, -1);
        desk.setVersion(0, 6, 2);
        dueCover("the last two of three", desk, -1, 0, 0);
    }

    private static void countBeforeOrder() {
        Entitled desk = new Entitled();
        desk.entitle(3, 5, 2, 'd', 1, -1);
        desk.entitle(1, 5, 2, 'd', 1, -1);
        desk.install(0, 5, 2, 0, 0, 1, 0);
        desk.install(1, 5, 2, 1, 0, 1, 0);
        dueCover("the first leaves 0 to the second", desk, 1, 0);
        desk.moveTo(1, 0, 0);
        dueCover("a bundle on one device", desk, 0, 0);
    }

    private static void sharedUnits() {
        Entitled desk = new Entitled();
        desk.entitle(1, 5, 2, 'u', 1, -1);
        desk.setRights(0, false, false, true);
        for (int i = 0; i < 6; i++) {
            desk.install(0, 5, 2, i, i / 3, 1, 0);
        }
        dueCover("a second use of one user", desk, 0, 0, -1, -1, -1, -1);
        desk.addUnits(0, 2);
        dueCover("three units", desk, 0, 0, 0, 0, 0, -1);
        desk.addUnits(0, 1);
        dueCover("four units", desk, 0, 0, 0, 0, 0, 0);
    }

    private static void trying() {
        Entitled desk = new Entitled();
        desk.entitle(1, 5, 2, 'd', 3, -1);
        for (int i = 0; i < 4; i++) {
            checks.due("coveredByTrying with " + i, desk.coveredByTrying(), Math.min(i, 3));
            desk.install(0, 5, 2, i, 0, 1, 0);
        }
        checks.due("coveredByTrying with 4", desk.coveredByTrying(), 3);
        desk.install(0, 5, 2, 4, 0, 1, 0);
        checks.thrownAndUnchanged("coveredByTrying with 5", Checks.UNSUPPORTED, desk, desk::coveredByTrying);
        checks.due("covered with 5", desk.covered(), 3);
        desk.retire(0);
        checks.due("coveredByTrying with 4 again", desk.coveredByTrying(), 3);
    }

    private static void answersOfOneInstall() {
        Entitled desk = new Entitled();
        desk.entitle(1, 5, 2, 'd', 1, -1);
        desk.install(0, 5, 2, 0, 0, 1, 0);
        desk.install(0, 5, 2, 1, 0, 1, 0);
        desk.install(1, 5, 2, 1, 0, 1, 0);
        checks.due("reason: covered", desk.reason(0), 'c');
        checks.due("reason: units lack", desk.reason(1), 'u');
        checks.due("reason: none fits", desk.reason(2), 'n');
        checks.due("entitlementOf(0)", desk.entitlementOf(0), 0);
        checks.thrownAndUnchanged("entitlementOf(1)", Checks.NONE, desk, () -> desk.entitlementOf(1));
        checks.thrownAndUnchanged("entitlementOf(2)", Checks.NONE, desk, () -> desk.entitlementOf(2));
    }

    private static void usedAndSpare() {
        Entitled desk = new Entitled();
        desk.entitle(1, 5, 2, 'c', 9, -1);
        desk.entitle(1, 5, 2, 'd', 7, -1);
        desk.entitle(1, 5, 2, 'u', 0, -1);
        checks.due("used without installs", desk.used(0), 0);
        checks.due("spare without installs", desk.spare(0), 9);
        desk.install(0, 5, 2, 0, 0, 5, 0);
        desk.install(0, 5, 2, 1, 0, 3, 0);
        desk.install(0, 5, 2, 1, 0, 2, 0);
        checks.due("used: cores", desk.used(0), 8);
        checks.due("spare: cores", desk.spare(0), 1);
        checks.due("used: devices", desk.used(1), 1);
        checks.due("spare: devices", desk.spare(1), 6);
        checks.due("used: users", desk.used(2), 0);
        checks.due("spare: users", desk.spare(2), 0);
        desk.setMinimum(0, 4);
        checks.due("used with a minimum", desk.used(0), 9);
        checks.due("spare with a minimum", desk.spare(0), 0);
        checks.due("units stay", desk.units(0), 9);
    }

    private static void wrongNumbers() {
        Entitled desk = new Entitled();
        desk.entitle(1, 5, 2, 'd', 1, -1);
        desk.install(0, 5, 2, 0, 0, 1, 0);
        desk.install(0, 5, 2, 0, 0, 1, 0);
        desk.retire(1);
        for (int bad : new int[] {-1, 1, 2, 11, 12, Integer.MIN_VALUE, Integer.MAX_VALUE}) {
            checks.thrownAndUnchanged("entitlementOf(" + bad + ")", Checks.INDEX, desk, () -> desk.entitlementOf(bad));
            checks.thrownAndUnchanged("reason(" + bad + ")", Checks.INDEX, desk, () -> desk.reason(bad));
        }
        for (int bad : new int[] {-1, 1, 4, 5, Integer.MIN_VALUE, Integer.MAX_VALUE}) {
            checks.thrownAndUnchanged("used(" + bad + ")", Checks.INDEX, desk, () -> desk.used(bad));
            checks.thrownAndUnchanged("spare(" + bad + ")", Checks.INDEX, desk, () -> desk.spare(bad));
        }
    }

    private static void retiredAndLateInstalls() {
        Entitled desk = new Entitled();
        desk.entitle(1, 5, 2, 'd', 1, -1);
        for (int i = 0; i < 12; i++) {
            desk.install(0, 5, 2, i % 10, 0, 1, 0);
            if (i < 11) {
                desk.retire(i);
            }
        }
        checks.due("the last install", desk.entitlementOf(11), 0);
        checks.due("covered()", desk.covered(), 1);
        checks.due("used(0)", desk.used(0), 1);
        checks.due("coverage()", desk.coverage(), 1.0f);
    }

    private static void lastNumbers() {
        Entitled desk = new Entitled();
        for (int e = 0; e < 3; e++) {
            desk.entitle(8, 5, 2, 'd', 9, -1);
        }
        desk.entitle(3, 5, 2, 'd', 1, -1);
        desk.entitle(1, 5, 2, 'd', 1, -1);
        for (int i = 0; i < 12; i++) {
            desk.install(i == 11 ? 1 : 0, 5, 2, i % 2, 0, 1, 0);
            if (i < 10) {
                desk.retire(i);
            }
        }
        checks.due("covered()", desk.covered(), 2);
        checks.due("coveredByTrying()", desk.coveredByTrying(), 2);
        checks.due("entitlementOf(10)", desk.entitlementOf(10), 4);
        checks.due("entitlementOf(11)", desk.entitlementOf(11), 3);
        checks.due("used(3)", desk.used(3), 1);
        checks.due("used(4)", desk.used(4), 1);
        checks.due("spare(4)", desk.spare(4), 0);
    }
}
