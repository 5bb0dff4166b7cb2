import java.io.IOException;

/** Promises 19 to 24: the cover. Each sentence has a test of its own. */
public final class CoverTest {
    private static final Checks checks = new Checks();

    public static void main(String[] args) throws IOException {
        Sentences document = new Sentences(checks);
        covered(document);
        coveredByTrying(document);
        entitlementOf(document);
        reason(document);
        used(document);
        spare(document);
        document.end();
        checks.end();
    }

    /** A desk with one entitlement of so many units, and so many installs of which each needs a unit. */
    private static Entitled deskOf(int units, int installs) {
        Entitled desk = new Entitled();
        Desks.add(desk, 1, 'd', units);
        for (int i = 0; i < installs; i++) {
            Desks.put(desk, 0, i, 0);
        }
        return desk;
    }

    /** The last of twelve installs, and the last of five entitlements, are needed for the cover. */
    private static Entitled lastNumbers() {
        Entitled desk = new Entitled();
        for (int e = 0; e < 3; e++) {
            Desks.add(desk, 8, 'd', 9);
        }
        Desks.add(desk, 3, 'd', 1);
        Desks.add(desk, 1, 'd', 1);
        for (int i = 0; i < 12; i++) {
            Desks.put(desk, i == 11 ? 1 : 0, i % 2, 0);
            if (i < 10) {
                desk.retire(i);
            }
        }
        return desk;
    }

    // ---- covered ----

    private static void covered(Sentences document) {
        document.section("Promise 19: covered");
        document.test("Returns how many installs have an entitlement by the cover, found by a search that gives up what "
                + "cannot become better.", CoverTest::howManyAreCovered);
        document.test("Returns the number of installs.", CoverTest::noneToSixAreCovered);
    }

    private static void howManyAreCovered() {
        Entitled desk = new Entitled();
        Desks.add(desk, 3, 'd', 1);
        Desks.add(desk, 1, 'c', 3);
        desk.install(0, 5, 2, 0, 0, 4, 0);
        desk.install(0, 5, 2, 1, 0, 3, 0);
        desk.install(1, 5, 2, 2, 0, 1, 0);
        checks.due("one of three lacks units", desk.covered(), 2);
        desk.moveTo(2, 0, 0);
        checks.due("a bundle on one device", desk.covered(), 3);
        desk.setMinimum(1, 4);
        checks.due("a minimum beyond the units", desk.covered(), 2);
        desk.addUnits(1, 1);
        checks.due("units for the minimum", desk.covered(), 3);
        desk.setVersion(1, 4, 2);
        checks.due("one that none fits", desk.covered(), 2);
        desk.retire(1);
        checks.due("all that are there", desk.covered(), 2);
        checks.due("the last numbers", lastNumbers().covered(), 2);
    }

    private static void noneToSixAreCovered() {
        checks.due("a new desk", new Entitled().covered(), 0);
        checks.due("all retired", Desks.allRetired().covered(), 0);
        for (int units = 0; units <= 7; units++) {
            for (int installs = 0; installs <= 6; installs++) {
                checks.due(units + " units for " + installs, deskOf(units, installs).covered(), Math.min(units, installs));
            }
        }
    }

    // ---- coveredByTrying ----

    private static void coveredByTrying(Sentences document) {
        document.section("Promise 20: coveredByTrying");
        document.test("Returns the same number, found by trying all assignments.", CoverTest::theSameByTrying);
        document.test("Returns the number of installs.", CoverTest::noneToFourByTrying);
        document.test("Throws `UnsupportedOperationException` if more than 4 installs are there",
                CoverTest::tryingMoreThanFour);
    }

    private static void theSameByTrying() {
        Entitled desk = new Entitled();
        Desks.add(desk, 3, 'd', 1);
        Desks.add(desk, 1, 'c', 3);
        desk.install(0, 5, 2, 0, 0, 4, 0);
        desk.install(0, 5, 2, 1, 0, 3, 0);
        desk.install(1, 5, 2, 2, 0, 1, 0);
        checks.due("one of three lacks units", desk.coveredByTrying(), 2);
        desk.moveTo(2, 0, 0);
        checks.due("a bundle on one device", desk.coveredByTrying(), 3);
        desk.setVersion(1, 4, 2);
        checks.due("one that none fits", desk.coveredByTrying(), 2);
        checks.due("the last numbers", lastNumbers().coveredByTrying(), 2);
    }

    private static void noneToFourByTrying() {
        checks.due("a new desk", new Entitled().coveredByTrying(), 0);
        checks.due("all retired", Desks.allRetired().coveredByTrying(), 0);
        for (int units = 0; units <= 5; units++) {
            for (int installs = 0; installs <= 4; installs++) {
                checks.due(units + " units for " + installs, deskOf(units, installs).coveredByTrying(),
                        Math.min(units, installs));
            }
        }
    }

    private static void tryingMoreThanFour() {
        checks.due("with 4", deskOf(3, 4).coveredByTrying(), 3);
        checks.refused("coveredByTrying with 5", Checks.UNSUPPORTED, () -> deskOf(3, 5), Entitled::coveredByTrying);
        checks.refused("coveredByTrying with 6", Checks.UNSUPPORTED, () -> deskOf(3, 6), Entitled::coveredByTrying);
        checks.refused("coveredByTrying without entitlements", Checks.UNSUPPORTED, CoverTest::fiveWithoutEntitlements,
                Entitled::coveredByTrying);
        Entitled desk = deskOf(3, 5);
        desk.retire(0);
        checks.due("with 4 of 5 made", desk.coveredByTrying(), 3);
        checks.due("with 3 of 12 made", Desks.twelveMade().coveredByTrying(), Desks.twelveMade().covered());
    }

    private static Entitled fiveWithoutEntitlements() {
        Entitled desk = new Entitled();
        for (int i = 0; i < 5; i++) {
            Desks.put(desk, 0, 0, 0);
        }
        return desk;
    }

    // ---- entitlementOf ----

    private static void entitlementOf(Sentences document) {
        document.section("Promise 21: entitlementOf");
        document.test("Returns the entitlement that an install has by the cover.", CoverTest::entitlementByCover);
        document.test("Returns the number of the entitlement.", CoverTest::firstAndLastNumber);
        document.test("Throws `IndexOutOfBoundsException` if there is no such install",
                () -> checks.refusedOfNoInstall("entitlementOf", Entitled::entitlementOf));
        document.test("or it is retired", () -> checks.refusedOfRetired("entitlementOf", Entitled::entitlementOf));
        document.test("Throws `NoSuchElementException` if it has none", CoverTest::hasNone);
    }

    private static void entitlementByCover() {
        Entitled desk = new Entitled();
        Desks.add(desk, 3, 'd', 1);
        Desks.add(desk, 1, 'd', 1);
        Desks.put(desk, 0, 0, 0);
        Desks.put(desk, 1, 1, 0);
        checks.due("entitlementOf(0)", desk.entitlementOf(0), 1);
        checks.due("entitlementOf(1)", desk.entitlementOf(1), 0);
        desk.addUnits(0, 1);
        checks.due("entitlementOf(0), with units for both", desk.entitlementOf(0), 0);
        checks.due("entitlementOf(1), with units for both", desk.entitlementOf(1), 0);
        desk.setVersion(0, 6, 2);
        desk.setRights(1, false, true, false);
        checks.due("entitlementOf(0), with the other right", desk.entitlementOf(0), 1);
        checks.due("entitlementOf(10)", lastNumbers().entitlementOf(10), 4);
        checks.due("entitlementOf(11)", lastNumbers().entitlementOf(11), 3);
    }

    private static void firstAndLastNumber() {
        for (int its = 0; its < 5; its++) {
            Entitled desk = new Entitled();
            Desks.put(desk, 0, 0, 0);
            for (int e = 0; e < 5; e++) {
                Desks.add(desk, 1, 'd', e < its ? 0 : 1);
            }
            checks.due("the first with units is " + its, desk.entitlementOf(0), its);
        }
    }

    private static void hasNone() {
        checks.refused("entitlementOf one that none fits", Checks.NONE, Desks::misfit, desk -> desk.entitlementOf(1));
        checks.refused("entitlementOf one for which units lack", Checks.NONE, () -> deskOf(1, 2),
                desk -> desk.entitlementOf(1));
        checks.refused("entitlementOf without units", Checks.NONE, () -> deskOf(0, 1), desk -> desk.entitlementOf(0));
        checks.refused("entitlementOf without entitlements", Checks.NONE, CoverTest::fiveWithoutEntitlements,
                desk -> desk.entitlementOf(4));
        checks.due("entitlementOf the one before", deskOf(1, 2).entitlementOf(0), 0);
    }

    // ---- reason ----

    private static void reason(Sentences document) {
        document.section("Promise 22: reason");
        document.test("Returns how an install stands by the cover.", CoverTest::howItStands);
        document.test("Returns 'c' if it has an entitlement", () -> {
            checks.due("with units for it", deskOf(1, 1).reason(0), 'c');
            checks.due("with units for the first", deskOf(1, 2).reason(0), 'c');
        });
        document.test("'n' if it has none and none fits it", () -> {
            checks.due("without entitlements", fiveWithoutEntitlements().reason(4), 'n');
            checks.due("with one for others", Desks.misfitOfFive().reason(4), 'n');
        });
        document.test("'u' if it has none, but some fit it.", () -> {
            checks.due("without units", deskOf(0, 1).reason(0), 'u');
            checks.due("with units for the first", deskOf(1, 2).reason(1), 'u');
            checks.due("with units for all but the last", deskOf(5, 6).reason(5), 'u');
        });
        document.test("Throws `IndexOutOfBoundsException` if there is no such install",
                () -> checks.refusedOfNoInstall("reason", Entitled::reason));
        document.test("or it is retired", () -> checks.refusedOfRetired("reason", Entitled::reason));
    }

    private static void howItStands() {
        Entitled desk = deskOf(1, 2);
        Desks.put(desk, 1, 1, 0);
        String before = "" + desk.reason(0) + desk.reason(1) + desk.reason(2);
        checks.due("one unit", before, "cun");
        desk.addUnits(0, 1);
        String behind = "" + desk.reason(0) + desk.reason(1) + desk.reason(2);
        checks.due("two units", behind, "ccn");
        desk.setVersion(0, 9, 2);
        checks.due("a version that it does not fit", desk.reason(0), 'n');
        Entitled large = new Entitled();
        Desks.add(large, 1, 'c', 2);
        large.install(0, 5, 2, 0, 0, 2, 0);
        large.install(0, 5, 2, 0, 0, 1, 0);
        large.install(0, 5, 2, 0, 0, 1, 0);
        checks.due("a large one that gives way", "" + large.reason(0) + large.reason(1) + large.reason(2), "ucc");
    }

    // ---- used ----

    private static void used(Sentences document) {
        document.section("Promise 23: used");
        document.test("Returns how many units an entitlement needs by the cover.", CoverTest::unitsByCover);
        document.test("Returns the number of units.", CoverTest::noneToAllUnits);
        document.test("Throws `IndexOutOfBoundsException` if there is no such entitlement",
                () -> checks.refusedOfNoEntitlement("used", Entitled::used));
    }

    /** By cores 9, by devices 7 and by users no units; the first two installs get cores, the third one a device. */
    private static Entitled threeMetrics() {
        Entitled desk = new Entitled();
        Desks.add(desk, 1, 'c', 9);
        Desks.add(desk, 1, 'd', 7);
        Desks.add(desk, 1, 'u', 0);
        desk.install(0, 5, 2, 0, 0, 5, 0);
        desk.install(0, 5, 2, 1, 0, 3, 0);
        desk.install(0, 5, 2, 1, 0, 2, 0);
        return desk;
    }

    private static void unitsByCover() {
        checks.due("by cores", threeMetrics().used(0), 8);
        checks.due("by devices", threeMetrics().used(1), 1);
        checks.due("by users", threeMetrics().used(2), 0);
        Entitled desk = threeMetrics();
        desk.setMinimum(0, 4);
        checks.due("by cores with a minimum", desk.used(0), 9);
        desk.addUnits(2, 1);
        desk.retire(0);
        checks.due("by cores without the first", desk.used(0), 8);
        checks.due("by devices without the first", desk.used(1), 0);
        checks.due("of the last numbers", lastNumbers().used(4), 1);
        checks.due("of the last but one", lastNumbers().used(3), 1);
        checks.due("of the others", lastNumbers().used(0), 0);
    }

    private static void noneToAllUnits() {
        for (int units = 0; units <= 7; units++) {
            for (int installs = 0; installs <= 6; installs++) {
                checks.due(units + " units for " + installs, deskOf(units, installs).used(0), Math.min(units, installs));
            }
        }
        Entitled desk = new Entitled();
        Desks.add(desk, 1, 'c', 96);
        for (int i = 0; i < 6; i++) {
            desk.install(0, 5, 2, 0, 0, 16, 0);
        }
        checks.due("the most by cores", desk.used(0), 96);
    }

    // ---- spare ----

    private static void spare(Sentences document) {
        document.section("Promise 24: spare");
        document.test("Returns how many units of an entitlement are not needed by the cover.", CoverTest::unitsNotNeeded);
        document.test("Returns the number of units.", CoverTest::noneToAllSpare);
        document.test("Throws `IndexOutOfBoundsException` if there is no such entitlement",
                () -> checks.refusedOfNoEntitlement("spare", Entitled::spare));
    }

    private static void unitsNotNeeded() {
        checks.due("by cores", threeMetrics().spare(0), 1);
        checks.due("by devices", threeMetrics().spare(1), 6);
        checks.due("by users", threeMetrics().spare(2), 0);
        Entitled desk = threeMetrics();
        desk.setMinimum(0, 4);
        checks.due("by cores with a minimum", desk.spare(0), 0);
        checks.due("units stay", desk.units(0), 9);
        checks.due("of the last numbers", lastNumbers().spare(4), 0);
        checks.due("of the others", lastNumbers().spare(2), 9);
    }

    private static void noneToAllSpare() {
        for (int units = 0; units <= 7; units++) {
            for (int installs = 0; installs <= 6; installs++) {
                checks.due(units + " units for " + installs, deskOf(units, installs).spare(0),
                        Math.max(0, units - installs));
            }
        }
        Entitled desk = deskOf(99, 1);
        for (int i = 0; i < 9; i++) {
            desk.addUnits(0, 99);
        }
        desk.addUnits(0, 9);
        checks.due("the most but one", desk.spare(0), 998);
        desk.retire(0);
        checks.due("the most", desk.spare(0), 999);
    }
}
