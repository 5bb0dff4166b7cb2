import java.io.IOException;

/** Promises 15 to 18: which entitlements fit an install, and what they need for all that they fit. */
public final class FittingTest {
    private static final Checks checks = new Checks();

    public static void main(String[] args) throws IOException {
        Sentences document = new Sentences(checks);
        why(document);
        fitting(document);
        firstFitting(document);
        unitsForAll(document);
        document.end();
        checks.end();
    }

    // ---- why ----

    private static void why(Sentences document) {
        document.section("Promise 15: why");
        document.test("Returns the first reason for which an entitlement does not fit an install.",
                FittingTest::firstReason);
        document.test("Returns 'p', 'o', 'e' or 'v', or '-' if it fits.", FittingTest::eachReasonAlone);
        document.test("Throws `IndexOutOfBoundsException` if there is no such install", FittingTest::whyOfNoInstall);
        document.test("or entitlement", FittingTest::whyOfNoEntitlement);
        document.test("or the install is retired",
                () -> checks.refusedOfRetired("why", (desk, number) -> desk.why(number, 0)));
    }

    /** All sets of reasons; the install has 9 and 3, so that a lower entitlement is too low without a right to go up. */
    private static void firstReason() {
        for (int reasons = 0; reasons < 16; reasons++) {
            boolean p = reasons % 2 == 1;
            boolean o = reasons / 2 % 2 == 1;
            boolean e = reasons / 4 % 2 == 1;
            boolean v = reasons / 8 == 1;
            Entitled desk = new Entitled();
            desk.entitle(p ? 2 : 1, v ? 5 : 9, e ? 2 : 3, 'd', 1, o ? 1 : 0);
            desk.install(0, 9, 3, 0, 0, 1, 0);
            char due = p ? 'p' : o ? 'o' : e ? 'e' : v ? 'v' : '-';
            checks.due("the first of the reasons " + reasons, desk.why(0, 0), due);
            desk.setRights(0, true, false, true);
            checks.due("it is the same with the right to go down, of " + reasons, desk.why(0, 0), due);
        }
    }

    private static void eachReasonAlone() {
        Entitled desk = new Entitled();
        desk.install(0, 5, 2, 0, 0, 1, 0);
        desk.entitle(14, 5, 2, 'd', 1, 0);
        desk.entitle(1, 5, 2, 'u', 1, 1);
        desk.entitle(1, 5, 1, 'c', 1, 0);
        desk.entitle(1, 4, 2, 'd', 1, 0);
        desk.entitle(1, 5, 2, 'u', 0, 0);
        char[] due = {'p', 'o', 'e', 'v', '-'};
        for (int e = 0; e < 5; e++) {
            checks.due("why(0, " + e + ")", desk.why(0, e), due[e]);
        }
        desk.setRights(3, false, true, false);
        checks.due("with the right to go up", desk.why(0, 3), '-');
        desk.setVersion(0, 3, 1);
        checks.due("an edition that fits, a lower version", desk.why(0, 2), 'v');
        checks.due("a lower edition", desk.why(0, 3), 'e');
        desk.setRights(3, true, false, false);
        checks.due("with the right to go down", desk.why(0, 3), '-');
    }

    private static void whyOfNoInstall() {
        checks.refusedOfNoInstall("why", (desk, number) -> desk.why(number, 0));
        checks.refusedOfNoInstall("why, with no such entitlement", (desk, number) -> desk.why(number, 5));
    }

    private static void whyOfNoEntitlement() {
        checks.refusedOfNoEntitlement("why of the first", (desk, e) -> desk.why(desk.isThere(0) ? 0 : 6, e));
    }

    // ---- fitting ----

    private static void fitting(Sentences document) {
        document.section("Promise 16: fitting");
        document.test("Returns the number of entitlements that fit an install.", FittingTest::thoseThatFit);
        document.test("Returns the number of entitlements.", FittingTest::noneToAllFit);
        document.test("Throws `IndexOutOfBoundsException` if there is no such install",
                () -> checks.refusedOfNoInstall("fitting", Entitled::fitting));
        document.test("or it is retired", () -> checks.refusedOfRetired("fitting", Entitled::fitting));
    }

    private static void thoseThatFit() {
        Entitled desk = Desks.some();
        checks.due("fitting(0)", desk.fitting(0), 3);
        checks.due("fitting(2)", desk.fitting(2), 1);
        checks.due("fitting(3)", desk.fitting(3), 1);
        desk.setPool(2, 0);
        checks.due("fitting(2) in another pool", desk.fitting(2), 2);
        desk.setRights(0, true, false, false);
        checks.due("fitting(3) with a right to go down", desk.fitting(3), 2);
    }

    private static void noneToAllFit() {
        Entitled desk = new Entitled();
        Desks.put(desk, 0, 0, 0);
        Desks.put(desk, 1, 0, 0);
        checks.due("without entitlements", desk.fitting(0), 0);
        for (int e = 0; e < 5; e++) {
            Desks.add(desk, 1, 'd', 0);
            checks.due("all of " + (e + 1), desk.fitting(0), e + 1);
            checks.due("none of " + (e + 1), desk.fitting(1), 0);
        }
    }

    // ---- firstFitting ----

    private static void firstFitting(Sentences document) {
        document.section("Promise 17: firstFitting");
        document.test("Returns the entitlement with the lowest number that fits an install.", FittingTest::lowestNumber);
        document.test("Returns the number of the entitlement.", FittingTest::firstAndLastNumber);
        document.test("Throws `IndexOutOfBoundsException` if there is no such install",
                () -> checks.refusedOfNoInstall("firstFitting", Entitled::firstFitting));
        document.test("or it is retired", () -> checks.refusedOfRetired("firstFitting", Entitled::firstFitting));
        document.test("Throws `NoSuchElementException` if there is none", FittingTest::noneFits);
    }

    private static void lowestNumber() {
        Entitled desk = new Entitled();
        Desks.put(desk, 0, 0, 0);
        desk.entitle(1, 5, 1, 'd', 9, -1);
        Desks.add(desk, 3, 'u', 0);
        Desks.add(desk, 1, 'c', 9);
        Desks.add(desk, 1, 'd', 9);
        checks.due("the first of three, without units", desk.firstFitting(0), 1);
        desk.setRights(0, true, true, true);
        checks.due("an edition that is too low", desk.firstFitting(0), 1);
        desk.setVersion(0, 5, 1);
        checks.due("an edition that fits", desk.firstFitting(0), 0);
    }

    private static void firstAndLastNumber() {
        for (int its = 0; its < 5; its++) {
            Entitled desk = new Entitled();
            Desks.put(desk, 0, 0, 0);
            for (int e = 0; e < 5; e++) {
                Desks.add(desk, e < its ? 14 : 15, 'd', 0);
            }
            checks.due("the first that fits is " + its, desk.firstFitting(0), its);
        }
    }

    private static void noneFits() {
        checks.refused("firstFitting without entitlements", Checks.NONE, FittingTest::noEntitlements,
                desk -> desk.firstFitting(0));
        checks.refused("firstFitting with entitlements for others", Checks.NONE, Desks::misfit,
                desk -> desk.firstFitting(1));
    }

    private static Entitled noEntitlements() {
        Entitled desk = new Entitled();
        Desks.put(desk, 0, 0, 0);
        return desk;
    }

    // ---- unitsForAll ----

    private static void unitsForAll(Sentences document) {
        document.section("Promise 18: unitsForAll");
        document.test("Returns how many units an entitlement would need if all installs that it fits had it.",
                FittingTest::unitsForThoseThatItFits);
        document.test("Returns the number of units.", FittingTest::leastAndMostUnits);
        document.test("Throws `IndexOutOfBoundsException` if there is no such entitlement",
                () -> checks.refusedOfNoEntitlement("unitsForAll", Entitled::unitsForAll));
    }

    private static void unitsForThoseThatItFits() {
        Entitled desk = new Entitled();
        desk.entitle(1, 5, 2, 'd', 0, 0);
        Desks.put(desk, 0, 0, 0);
        Desks.put(desk, 1, 1, 1);
        desk.install(0, 5, 2, 2, 2, 1, 1);
        desk.install(0, 5, 3, 3, 3, 1, 0);
        desk.install(0, 4, 2, 4, 4, 1, 0);
        Desks.put(desk, 0, 5, 5);
        checks.due("the two that it fits", desk.unitsForAll(0), 2);
        checks.due("a second time", desk.unitsForAll(0), 2);
        Desks.add(desk, 1, 'd', 99);
        checks.due("another entitlement takes none away", desk.unitsForAll(0), 2);
        desk.retire(5);
        checks.due("a retired one needs nothing", desk.unitsForAll(0), 1);
    }

    private static void leastAndMostUnits() {
        for (char metric : new char[] {'d', 'u', 'c'}) {
            Entitled desk = new Entitled();
            Desks.add(desk, 15, metric, 1);
            checks.due("no installs by " + metric, desk.unitsForAll(0), 0);
            for (int i = 0; i < 6; i++) {
                desk.install(3, 5, 2, 9 - i, 9 - i, 16, 2);
            }
            checks.due("six installs by " + metric, desk.unitsForAll(0), metric == 'c' ? 96 : 6);
            checks.due("units are not asked for", desk.units(0), 1);
        }
        Entitled desk = Desks.misfit();
        checks.due("the one that it fits", desk.unitsForAll(1), 1);
        desk.retire(0);
        checks.due("none that it fits any more", desk.unitsForAll(1), 0);
    }
}
