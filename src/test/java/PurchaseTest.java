import java.io.IOException;

/** Promises 25 to 30: the least purchase, what was spent, and the coverage. Each sentence has a test of its own. */
public final class PurchaseTest {
    private static final Checks checks = new Checks();

    public static void main(String[] args) throws IOException {
        Sentences document = new Sentences(checks);
        purchase(document);
        purchaseByTrying(document);
        toBuy(document);
        trueUp(document);
        spent(document);
        coverage(document);
        document.end();
        checks.end();
    }

    /** A desk with one entitlement of so many units, and so many installs of which each needs a unit. */
    private static Entitled deskOf(int units, int installs) {
        Entitled desk = new Entitled();
        Desks.add(desk, 1, 'd', units);
        for (int i = 0; i < installs; i++) {
            Desks.put(desk, 0, i, 0);
        }
        return desk;
    }

    /** Two units for two devices, or a dearer one for one user; the third install needs cores. */
    private static Entitled threeMetrics() {
        Entitled desk = new Entitled();
        Desks.add(desk, 1, 'd', 0);
        Desks.add(desk, 1, 'u', 0);
        Desks.add(desk, 2, 'c', 1);
        desk.setRights(1, false, false, true);
        desk.setPrice(1, 15);
        desk.setPrice(2, 3);
        desk.install(0, 5, 2, 0, 0, 1, 0);
        desk.install(0, 5, 2, 1, 0, 1, 0);
        desk.install(1, 5, 2, 2, 1, 5, 0);
        return desk;
    }

    private static Entitled greatest() {
        Entitled desk = new Entitled();
        Desks.add(desk, 1, 'c', 0);
        desk.setPrice(0, 99);
        for (int i = 0; i < 6; i++) {
            desk.install(0, 5, 2, 0, 0, 16, 0);
        }
        return desk;
    }

    /** Of twelve installs the last two are there, and of five entitlements only the last fits them. */
    private static Entitled lastNumbers() {
        Entitled desk = new Entitled();
        for (int e = 0; e < 5; e++) {
            Desks.add(desk, e < 4 ? 14 : 15, 'd', 0);
        }
        for (int i = 0; i < 12; i++) {
            Desks.put(desk, 0, i % 2, 0);
            if (i < 10) {
                desk.retire(i);
            }
        }
        return desk;
    }

    /** No entitlement fits the only install, though one was added. */
    private static Entitled onlyMisfits() {
        Entitled desk = Desks.misfit();
        desk.retire(0);
        return desk;
    }

    private static Entitled noEntitlements() {
        Entitled desk = new Entitled();
        Desks.put(desk, 0, 0, 0);
        return desk;
    }

    private static void refusedWhereNoneFits(String call, Checks.DeskCall run) {
        checks.refused(call + " where none fits the last", Checks.NONE, Desks::misfit, run);
        checks.refused(call + " where none fits any", Checks.NONE, PurchaseTest::onlyMisfits, run);
    }

    // ---- purchase ----

    private static void purchase(Sentences document) {
        document.section("Promise 25: purchase");
        document.test("Returns the sum of the least purchase, found by a search that gives up what cannot become better.",
                PurchaseTest::sumOfLeastPurchase);
        document.test("Returns the sum.", PurchaseTest::leastAndGreatestSum);
        document.test("Throws `NoSuchElementException` if no entitlement fits some install",
                PurchaseTest::noneFitsForPurchase);
    }

    private static void sumOfLeastPurchase() {
        Entitled desk = threeMetrics();
        checks.due("one user, four cores", desk.purchase(), 27);
        desk.setPrice(0, 7);
        checks.due("two devices, four cores", desk.purchase(), 26);
        desk.setMinimum(2, 6);
        checks.due("two devices, five cores", desk.purchase(), 29);
        desk.addUnits(1, 1);
        checks.due("five cores", desk.purchase(), 15);
        desk.addUnits(2, 5);
        checks.due("nothing", desk.purchase(), 0);
        checks.due("the last numbers", lastNumbers().purchase(), 20);
    }

    private static void leastAndGreatestSum() {
        checks.due("a new desk", new Entitled().purchase(), 0);
        checks.due("all retired", Desks.allRetired().purchase(), 0);
        for (int units = 0; units <= 7; units++) {
            for (int installs = 0; installs <= 6; installs++) {
                checks.due(units + " units for " + installs, deskOf(units, installs).purchase(),
                        10 * Math.max(0, installs - units));
            }
        }
        checks.due("the greatest", greatest().purchase(), 9504);
    }

    private static void noneFitsForPurchase() {
        refusedWhereNoneFits("purchase", Entitled::purchase);
        checks.refused("purchase without entitlements", Checks.NONE, PurchaseTest::noEntitlements, Entitled::purchase);
        checks.refused("purchase where none fits the last of five", Checks.NONE, Desks::misfitOfFive,
                Entitled::purchase);
        Entitled desk = Desks.misfit();
        desk.retire(1);
        checks.due("where those are retired that none fitted", desk.purchase(), 0);
    }

    // ---- purchaseByTrying ----

    private static void purchaseByTrying(Sentences document) {
        document.section("Promise 26: purchaseByTrying");
        document.test("Returns the same sum, found by trying all assignments.", PurchaseTest::sameSumByTrying);
        document.test("Returns the sum.", PurchaseTest::leastAndGreatestSumByTrying);
        document.test("Throws `UnsupportedOperationException` if more than 4 installs are there",
                PurchaseTest::tryingMoreThanFour);
        document.test("Throws `NoSuchElementException` if no entitlement fits some install",
                PurchaseTest::noneFitsForTrying);
    }

    private static void sameSumByTrying() {
        Entitled desk = threeMetrics();
        checks.due("one user, four cores", desk.purchaseByTrying(), 27);
        desk.setPrice(0, 7);
        checks.due("two devices, four cores", desk.purchaseByTrying(), 26);
        desk.addUnits(1, 1);
        checks.due("four cores", desk.purchaseByTrying(), 12);
        desk.addUnits(2, 4);
        checks.due("nothing", desk.purchaseByTrying(), 0);
        checks.due("the last numbers", lastNumbers().purchaseByTrying(), 20);
    }

    private static void leastAndGreatestSumByTrying() {
        checks.due("a new desk", new Entitled().purchaseByTrying(), 0);
        checks.due("all retired", Desks.allRetired().purchaseByTrying(), 0);
        for (int units = 0; units <= 5; units++) {
            for (int installs = 0; installs <= 4; installs++) {
                checks.due(units + " units for " + installs, deskOf(units, installs).purchaseByTrying(),
                        10 * Math.max(0, installs - units));
            }
        }
        Entitled desk = greatest();
        desk.retire(0);
        desk.retire(5);
        checks.due("the greatest of four", desk.purchaseByTrying(), 6336);
    }

    private static void tryingMoreThanFour() {
        checks.due("with 4", deskOf(1, 4).purchaseByTrying(), 30);
        checks.refused("purchaseByTrying with 5", Checks.UNSUPPORTED, () -> deskOf(1, 5), Entitled::purchaseByTrying);
        checks.refused("purchaseByTrying with 6", Checks.UNSUPPORTED, () -> deskOf(1, 6), Entitled::purchaseByTrying);
        Entitled desk = deskOf(1, 5);
        desk.retire(4);
        checks.due("with 4 of 5 made", desk.purchaseByTrying(), 30);
        checks.due("with 3 of 12 made", Desks.twelveMade().purchaseByTrying(), Desks.twelveMade().purchase());
    }

    private static void noneFitsForTrying() {
        refusedWhereNoneFits("purchaseByTrying", Entitled::purchaseByTrying);
        checks.refused("purchaseByTrying without entitlements", Checks.NONE, PurchaseTest::noEntitlements,
                Entitled::purchaseByTrying);
        checks.refused("purchaseByTrying where none fits the last of four", Checks.NONE, PurchaseTest::misfitOfFour,
                Entitled::purchaseByTrying);
    }

    private static Entitled misfitOfFour() {
        Entitled desk = Desks.misfitOfFive();
        desk.retire(0);
        return desk;
    }

    // ---- toBuy ----

    private static void toBuy(Sentences document) {
        document.section("Promise 27: toBuy");
        document.test("Returns how many units of an entitlement the least purchase has.", PurchaseTest::unitsToBuy);
        document.test("Returns the number of units.", PurchaseTest::leastAndMostToBuy);
        document.test("Throws `IndexOutOfBoundsException` if there is no such entitlement",
                () -> checks.refusedOfNoEntitlement("toBuy", Entitled::toBuy));
        document.test("Throws `NoSuchElementException` if no entitlement fits some install", () -> {
            refusedWhereNoneFits("toBuy of the first", desk -> desk.toBuy(0));
            refusedWhereNoneFits("toBuy of the last", desk -> desk.toBuy(1));
            checks.refused("toBuy where none fits the last of five", Checks.NONE, Desks::misfitOfFive,
                    desk -> desk.toBuy(0));
        });
    }

    private static void dueToBuy(String text, Entitled desk, int... due) {
        for (int e = 0; e < due.length; e++) {
            checks.due(text + ": toBuy(" + e + ")", desk.toBuy(e), due[e]);
        }
    }

    private static void unitsToBuy() {
        Entitled desk = threeMetrics();
        dueToBuy("one user, four cores", desk, 0, 1, 4);
        desk.setPrice(0, 7);
        dueToBuy("two devices, four cores", desk, 2, 0, 4);
        desk.setPrice(1, 14);
        dueToBuy("two devices at the price of a user", desk, 2, 0, 4);
        desk.addUnits(0, 1);
        dueToBuy("one device, four cores", desk, 1, 0, 4);
        checks.due("of the last numbers, as the first question", lastNumbers().toBuy(4), 2);
        checks.due("of the others", lastNumbers().toBuy(3), 0);
        checks.due("units stay", desk.units(0), 1);
        checks.due("nothing is spent", desk.spent(), 0L);
    }

    private static void leastAndMostToBuy() {
        Entitled desk = new Entitled();
        Desks.add(desk, 1, 'd', 0);
        checks.due("no installs", desk.toBuy(0), 0);
        for (int units = 0; units <= 7; units++) {
            for (int installs = 0; installs <= 6; installs++) {
                checks.due(units + " units for " + installs, deskOf(units, installs).toBuy(0),
                        Math.max(0, installs - units));
            }
        }
        checks.due("the most", greatest().toBuy(0), 96);
    }

    // ---- trueUp ----

    private static void trueUp(Sentences document) {
        document.section("Promise 28: trueUp");
        document.test("Buys the least purchase: its units are added to the entitlements.", PurchaseTest::unitsAreAdded);
        document.test("Returns the sum.", PurchaseTest::sumsOfTrueUp);
        document.test("Throws `NoSuchElementException` if no entitlement fits some install", PurchaseTest::noneFitsForTrueUp);
    }

    private static void dueUnits(String text, Entitled desk, int... due) {
        for (int e = 0; e < due.length; e++) {
            checks.due(text + ": units(" + e + ")", desk.units(e), due[e]);
        }
    }

    private static void unitsAreAdded() {
        Entitled desk = threeMetrics();
        checks.due("covered() before", desk.covered(), 0);
        desk.trueUp();
        dueUnits("behind the first", desk, 0, 1, 5);
        checks.due("covered() behind it", desk.covered(), 3);
        checks.due("purchase() behind it", desk.purchase(), 0);
        desk.trueUp();
        dueUnits("behind one that buys nothing", desk, 0, 1, 5);
        desk.moveTo(0, 0, 9);
        desk.trueUp();
        dueUnits("behind another user", desk, 1, 1, 5);
        desk.retire(2);
        desk.trueUp();
        dueUnits("more than are needed now", desk, 1, 1, 5);
        Entitled last = lastNumbers();
        last.trueUp();
        dueUnits("the last numbers", last, 0, 0, 0, 0, 2);
        Entitled most = greatest();
        most.trueUp();
        dueUnits("the most", most, 96);
    }

    private static void sumsOfTrueUp() {
        checks.due("of a new desk", new Entitled().trueUp(), 0);
        checks.due("of a desk with all retired", Desks.allRetired().trueUp(), 0);
        Entitled desk = threeMetrics();
        checks.due("the first", desk.trueUp(), 27);
        checks.due("the second", desk.trueUp(), 0);
        checks.due("the greatest", greatest().trueUp(), 9504);
        checks.due("of the last numbers", lastNumbers().trueUp(), 20);
        checks.due("with 999 units", nineHundredNinetyNine().trueUp(), 0);
        checks.due("units that are there stay", unitsBehind(nineHundredNinetyNine()), 999);
    }

    private static int unitsBehind(Entitled desk) {
        desk.trueUp();
        return desk.units(0);
    }

    private static Entitled nineHundredNinetyNine() {
        Entitled desk = deskOf(99, 6);
        for (int i = 0; i < 9; i++) {
            desk.addUnits(0, 99);
        }
        desk.addUnits(0, 9);
        return desk;
    }

    private static void noneFitsForTrueUp() {
        refusedWhereNoneFits("trueUp", Entitled::trueUp);
        checks.refused("trueUp without entitlements", Checks.NONE, PurchaseTest::noEntitlements, Entitled::trueUp);
        checks.refused("trueUp where none fits the last of five", Checks.NONE, Desks::misfitOfFive, Entitled::trueUp);
    }

    // ---- spent ----

    private static void spent(Sentences document) {
        document.section("Promise 29: spent");
        document.test("Returns the sum of all purchases that were bought.", PurchaseTest::sumOfAllBought);
        document.test("Returns the sum.", PurchaseTest::leastAndGreatestSpent);
    }

    private static void sumOfAllBought() {
        Entitled desk = threeMetrics();
        desk.trueUp();
        checks.due("behind the first", desk.spent(), 27L);
        desk.trueUp();
        checks.due("behind one that buys nothing", desk.spent(), 27L);
        desk.moveTo(0, 0, 9);
        desk.trueUp();
        checks.due("behind another", desk.spent(), 37L);
        desk.addUnits(0, 99);
        desk.setPrice(0, 99);
        checks.due("units that are added are not bought", desk.spent(), 37L);
        desk.retire(0);
        checks.due("what was bought stays", desk.spent(), 37L);
        Desks.put(desk, 3, 0, 0);
        checks.thrown("a refused one", Checks.NONE, desk::trueUp);
        checks.due("behind a refused one", desk.spent(), 37L);
    }

    private static void leastAndGreatestSpent() {
        checks.due("a new desk", new Entitled().spent(), 0L);
        Entitled desk = greatest();
        checks.due("before", desk.spent(), 0L);
        desk.trueUp();
        checks.due("the greatest at once", desk.spent(), 9504L);
        for (int i = 0; i < 6; i++) {
            desk.setVersion(i, 6, 2);
        }
        for (int e = 1; e < 5; e++) {
            desk.entitle(1, 5 + e, 2, 'c', 0, -1);
            desk.setPrice(e, 99);
            for (int i = 0; i < 6; i++) {
                desk.setVersion(i, 5 + e, 2);
            }
            desk.trueUp();
            checks.due("behind " + (e + 1), desk.spent(), 9504L * (e + 1));
        }
    }

    // ---- coverage ----

    private static void coverage(Sentences document) {
        document.section("Promise 30: coverage");
        document.test("Returns the share of the installs that have an entitlement by the cover.",
                PurchaseTest::shareOfInstalls);
        document.test("Returns their number divided by that of all installs that are there, both converted to float.",
                PurchaseTest::quotientsOfFloats);
        document.test("Throws `NoSuchElementException` if none is there", PurchaseTest::coverageOfNone);
    }

    private static void shareOfInstalls() {
        checks.due("none", deskOf(0, 1).coverage(), 0.0f);
        checks.due("all", deskOf(1, 1).coverage(), 1.0f);
        checks.due("half", deskOf(2, 4).coverage(), 0.5f);
        Entitled desk = deskOf(2, 4);
        desk.retire(0);
        desk.retire(1);
        checks.due("all that are left", desk.coverage(), 1.0f);
        Desks.put(desk, 1, 0, 0);
        Desks.put(desk, 1, 0, 0);
        checks.due("half of them fit", desk.coverage(), 0.5f);
    }

    private static void quotientsOfFloats() {
        for (int units = 0; units <= 7; units++) {
            for (int installs = 1; installs <= 6; installs++) {
                float due = (float) Math.min(units, installs) / (float) installs;
                checks.due(units + " units for " + installs, deskOf(units, installs).coverage(), due);
            }
        }
        checks.due("a third", deskOf(1, 3).coverage(), 0.33333334f);
        checks.due("five of six", deskOf(5, 6).coverage(), 0.8333333f);
    }

    private static void coverageOfNone() {
        checks.refused("coverage of a new desk", Checks.NONE, Entitled::new, Entitled::coverage);
        checks.refused("coverage with all retired", Checks.NONE, Desks::allRetired, Entitled::coverage);
    }
}
