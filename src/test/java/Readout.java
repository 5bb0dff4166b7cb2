/**
 * All that the calls of a desk tell of its state, as text. It changes the desk: some values are told only by the calls
 * that set others, and users only by moving an install from user to user.
 */
final class Readout {
    private final Entitled desk;
    private final StringBuilder text = new StringBuilder();

    private Readout(Entitled desk) {
        this.desk = desk;
    }

    static String of(Entitled desk) {
        Readout readout = new Readout(desk);
        readout.look();
        readout.terms();
        readout.users();
        readout.values();
        readout.numbers();
        return readout.text.toString();
    }

    private void line(String call, Checks.Call run) {
        text.append(call).append(" -> ").append(Checks.answerOrClass(run)).append('\n');
    }

    private void look() {
        line("installs()", desk::installs);
        line("spent()", desk::spent);
        line("covered()", desk::covered);
        line("coveredByTrying()", desk::coveredByTrying);
        line("purchase()", desk::purchase);
        line("purchaseByTrying()", desk::purchaseByTrying);
        line("coverage()", desk::coverage);
        for (int i = 0; i < 12; i++) {
            lookAtInstall(i);
        }
        for (int e = 0; e < 5; e++) {
            lookAtEntitlement(e);
        }
    }

    private void lookAtInstall(int i) {
        line("isThere(" + i + ")", () -> desk.isThere(i));
        if (desk.isThere(i)) {
            line("entitlementOf(" + i + ")", () -> desk.entitlementOf(i));
            line("reason(" + i + ")", () -> desk.reason(i));
            for (int e = 0; e < 5; e++) {
                int entitlement = e;
                line("why(" + i + ", " + e + ")", () -> desk.why(i, entitlement));
            }
        }
    }

    private void lookAtEntitlement(int e) {
        line("units(" + e + ")", () -> desk.units(e));
        line("unitsForAll(" + e + ")", () -> desk.unitsForAll(e));
        line("used(" + e + ")", () -> desk.used(e));
        line("toBuy(" + e + ")", () -> desk.toBuy(e));
    }

    private void terms() {
        for (int e = 0; e < 5; e++) {
            int entitlement = e;
            line("rights of " + e, () -> desk.setRights(entitlement, true, true, false));
            line("price of " + e, () -> desk.setPrice(entitlement, 1));
            line("minimum of " + e, () -> desk.setMinimum(entitlement, 1));
        }
    }

    private void users() {
        int last = 11;
        while (last > 0 && !desk.isThere(last)) {
            last--;
        }
        if (!desk.isThere(last)) {
            return;
        }
        int moved = last;
        for (int u = 0; u < 10; u++) {
            int user = u;
            line("device of " + moved, () -> desk.moveTo(moved, user, user));
            for (int e = 0; e < 5; e++) {
                int entitlement = e;
                line("unitsForAll(" + e + ") with " + moved + " at " + u, () -> desk.unitsForAll(entitlement));
            }
        }
    }

    private void values() {
        for (int i = 0; i < 12; i++) {
            int install = i;
            if (desk.isThere(i)) {
                line("version of " + i, () -> desk.setVersion(install, 5, 2));
                line("pool of " + i, () -> desk.setPool(install, 0));
                line("device of " + i, () -> desk.moveTo(install, 0, 0));
            }
        }
    }

    /** The next numbers, and how many are left. All are retired before, so that nothing but the numbers is refused. */
    private void numbers() {
        for (int i = 0; i < 12; i++) {
            int install = i;
            if (desk.isThere(i)) {
                line("retire(" + i + ")", () -> desk.retire(install));
            }
        }
        for (int i = 0; i < 7; i++) {
            line("an install more", () -> desk.install(0, 5, 2, 0, 0, 1, 0));
        }
        line("installs()", desk::installs);
        for (int e = 0; e < 6; e++) {
            line("an entitlement more", () -> desk.entitle(1, 5, 2, 'd', 1, 0));
        }
    }
}
