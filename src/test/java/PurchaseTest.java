/** Promises 25 to 30: the least purchase, what was spent, and the coverage. */
public final class PurchaseTest {
    private static final Checks checks = new Checks();

    public static void main(String[] args) {
        cheapest();
        unitsBeyondThoseItHas();
        firstOfSeveral();
        freeAtAnotherOne();
        noneFits();
        trying();
        lastNumbers();
        wrongNumbers();
        trueUp();
        trueUpBeyondLimits();
        coverage();
        checks.end();
    }

    private static void duePurchase(String text, Entitled desk, int sum, int... toBuy) {
        checks.due(text + ": purchase()", desk.purchase(), sum);
        if (desk.installs() <= 4) {
            checks.due(text + ": purchaseByTrying()", desk.purchaseByTrying(), sum);
        }
        for (int e = 0; e < toBuy.length; e++) {
            checks.due(text + ": toBuy(" + e + ")", desk.toBuy(e), toBuy[e]);
        }
    }

    private static void cheapest() {
        Entitled desk = new Entitled();
        desk.entitle(1, 5, 2, 'd', 0, -1);
        desk.entitle(1, 5, 2, 'u', 0, -1);
        duePurchase("no installs", desk, 0, 0, 0);
        desk.install(0, 5, 2, 0, 0, 1, 0);
        desk.install(0, 5, 2, 1, 0, 1, 0);
        duePurchase("the same price", desk, 20, 2, 0);
        desk.setPrice(0, 11);
        duePurchase("a dearer first", desk, 20, 0, 2);
        desk.setRights(1, false, false, true);
        duePurchase("a second use", desk, 10, 0, 1);
        desk.setPrice(0, 4);
        duePurchase("two cheap ones", desk, 8, 2, 0);
    }

    private static void unitsBeyondThoseItHas() {
        Entitled desk = new Entitled();
        desk.entitle(1, 5, 2, 'c', 5, -1);
        desk.install(0, 5, 2, 0, 0, 4, 0);
        duePurchase("enough", desk, 0, 0);
        desk.install(0, 5, 2, 0, 0, 4, 0);
        duePurchase("three too few", desk, 30, 3);
        desk.setMinimum(0, 16);
        duePurchase("with a minimum", desk, 270, 27);
        desk.setPrice(0, 99);
        duePurchase("at the greatest price", desk, 27 * 99, 27);
    }

    private static void firstOfSeveral() {
        Entitled desk = new Entitled();
        desk.entitle(1, 5, 2, 'd', 0, -1);
        desk.entitle(3, 5, 2, 'd', 0, -1);
        desk.install(0, 5, 2, 0, 0, 1, 0);
        duePurchase("the lowest number", desk, 10, 1, 0);
        desk.install(1, 5, 2, 0, 0, 1, 0);
        duePurchase("one for both", desk, 10, 0, 1);
        desk.moveTo(1, 1, 0);
        duePurchase("the lowest number for the lowest", desk, 20, 1, 1);
        desk.retire(0);
        duePurchase("the rest", desk, 10, 0, 1);
    }

    private static void freeAtAnotherOne() {
        Entitled desk = new Entitled();
        desk.entitle(15, 5, 2, 'd', 0, -1);
        desk.entitle(15, 5, 2, 'd', 2, -1);
        for (int i = 0; i < 6; i++) {
            desk.install(0, 5, 2, i, 0, 1, 0);
        }
        duePurchase("two are free", desk, 40, 4, 0);
        desk.setPrice(1, 1);
        duePurchase("the second is cheap", desk, 4, 0, 4);
    }

    private static void noneFits() {
        Entitled desk = new Entitled();
        desk.entitle(1, 5, 2, 'd', 9, -1);
        desk.install(0, 5, 2, 0, 0, 1, 0);
        desk.install(1, 5, 2, 0, 0, 1, 0);
        checks.thrownAndUnchanged("purchase()", Checks.NONE, desk, desk::purchase);
        checks.thrownAndUnchanged("purchaseByTrying()", Checks.NONE, desk, desk::purchaseByTrying);
        checks.thrownAndUnchanged("toBuy(0)", Checks.NONE, desk, () -> desk.toBuy(0));
        checks.thrownAndUnchanged("trueUp()", Checks.NONE, desk, desk::trueUp);
        checks.thrown("toBuy(1)", Checks.INDEX, () -> desk.toBuy(1));
        for (int i = 2; i < 5; i++) {
            desk.install(1, 5, 2, 0, 0, 1, 0);
        }
        checks.thrown("purchaseByTrying() with 5", Checks.UNSUPPORTED, desk::purchaseByTrying);
        for (int i = 1; i < 5; i++) {
            desk.retire(i);
        }
        duePurchase("those that none fitted are retired", desk, 0, 0);
        desk.setVersion(0, 6, 2);
        checks.thrown("purchase() with none at all", Checks.NONE, desk::purchase);
    }

    private static void trying() {
        Entitled desk = new Entitled();
        desk.entitle(1, 5, 2, 'd', 1, -1);
        for (int i = 0; i < 4; i++) {
            desk.install(0, 5, 2, i, 0, 1, 0);
            checks.due("purchaseByTrying with " + (i + 1), desk.purchaseByTrying(), 10 * i);
        }
        desk.install(0, 5, 2, 4, 0, 1, 0);
        checks.thrownAndUnchanged("purchaseByTrying with 5", Checks.UNSUPPORTED, desk, desk::purchaseByTrying);
        checks.due("purchase with 5", desk.purchase(), 40);
    }

    private static void lastNumbers() {
        Entitled desk = new Entitled();
        for (int e = 0; e < 5; e++) {
            desk.entitle(e < 4 ? 14 : 15, 5, 2, 'd', 0, -1);
        }
        for (int i = 0; i < 12; i++) {
            desk.install(0, 5, 2, i % 2, 0, 1, 0);
            if (i < 10) {
                desk.retire(i);
            }
        }
        checks.due("toBuy(4) as the first question", desk.toBuy(4), 2);
        checks.due("toBuy(3)", desk.toBuy(3), 0);
        desk.retire(10);
        checks.due("toBuy(4) of the last install", desk.toBuy(4), 1);
        checks.due("trueUp()", desk.trueUp(), 10);
        checks.due("units(4)", desk.units(4), 1);
    }

    private static void wrongNumbers() {
        Entitled desk = new Entitled();
        desk.entitle(1, 5, 2, 'd', 1, -1);
        for (int bad : new int[] {-1, 1, 4, 5, Integer.MIN_VALUE, Integer.MAX_VALUE}) {
            checks.thrownAndUnchanged("toBuy(" + bad + ")", Checks.INDEX, desk, () -> desk.toBuy(bad));
        }
    }

    private static void trueUp() {
        Entitled desk = new Entitled();
        checks.due("trueUp of a new desk", desk.trueUp(), 0);
        desk.entitle(1, 5, 2, 'd', 1, -1);
        desk.entitle(2, 5, 2, 'c', 1, -1);
        desk.entitle(2, 5, 2, 'u', 7, 1);
        desk.setPrice(1, 3);
        desk.install(0, 5, 2, 0, 0, 1, 0);
        desk.install(0, 5, 2, 1, 0, 1, 0);
        desk.install(1, 5, 2, 1, 0, 5, 0);
        checks.due("covered() before", desk.covered(), 1);
        checks.due("trueUp()", desk.trueUp(), 22);
        checks.due("units(0)", desk.units(0), 2);
        checks.due("units(1)", desk.units(1), 5);
        checks.due("units(2)", desk.units(2), 7);
        checks.due("spent()", desk.spent(), 22L);
        checks.due("covered() behind it", desk.covered(), 3);
        checks.due("purchase() behind it", desk.purchase(), 0);
        checks.due("trueUp() again", desk.trueUp(), 0);
        checks.due("spent() again", desk.spent(), 22L);
        desk.install(1, 5, 2, 1, 0, 2, 0);
        checks.due("a second trueUp()", desk.trueUp(), 6);
        checks.due("spent() in all", desk.spent(), 28L);
        checks.due("units(1) in all", desk.units(1), 7);
        checks.due("addUnits spends nothing", desk.addUnits(0, 99) * 1000 + desk.spent(), 101028L);
    }

    private static void trueUpBeyondLimits() {
        Entitled desk = new Entitled();
        desk.entitle(1, 5, 2, 'c', 0, -1);
        desk.setPrice(0, 99);
        for (int i = 0; i < 6; i++) {
            desk.install(0, 5, 2, 0, 0, 16, 0);
        }
        checks.due("the greatest trueUp()", desk.trueUp(), 9504);
        checks.due("its units", desk.units(0), 96);
        checks.due("spent()", desk.spent(), 9504L);
    }

    private static void coverage() {
        Entitled desk = new Entitled();
        checks.thrownAndUnchanged("coverage of none", Checks.NONE, desk, desk::coverage);
        desk.entitle(1, 5, 2, 'd', 0, -1);
        for (int i = 0; i < 6; i++) {
            desk.install(0, 5, 2, i, 0, 1, 0);
            checks.due("coverage of 0 of " + (i + 1), desk.coverage(), 0.0f);
        }
        for (int i = 1; i <= 6; i++) {
            desk.addUnits(0, 1);
            checks.due("coverage of " + i + " of 6", desk.coverage(), (float) i / 6.0f);
        }
        for (int i = 0; i < 6; i++) {
            desk.retire(i);
        }
        checks.thrown("coverage of none any more", Checks.NONE, desk::coverage);
    }
}
