import java.io.IOException;

/** The sentences of "What it is" and of "Terms", each with a test of its own. */
public final class TermsTest {
    private static final Checks checks = new Checks();

    public static void main(String[] args) throws IOException {
        Sentences document = new Sentences(checks);
        whatItIs(document);
        document.section("Terms");
        overview(document);
        installs(document);
        entitlements(document);
        fitting(document);
        units(document);
        cover(document);
        purchase(document);
        exceptions(document);
        document.end();
        checks.end();
    }

    // ---- what it is ----

    private static void whatItIs(Sentences document) {
        document.section("What it is");
        document.setAside("A desk for software licences.");
        document.test("An object is used for at most 512 calls after it has been made", TermsTest::allCallsOfAnObject);
        document.setAside("what later calls answer is free.");
    }

    private static void allCallsOfAnObject() {
        Entitled desk = new Entitled();
        Desks.add(desk, 15, 'u', 0);
        Desks.put(desk, 0, 0, 0);
        Desks.put(desk, 0, 0, 1);
        for (int i = 0; i < 168; i++) {
            checks.due("move " + i, desk.moveTo(0, (i + 1) % 10, 2 + i % 7), i % 10);
            checks.due("covered() behind move " + i, desk.covered(), 0);
            checks.due("purchase() behind move " + i, desk.purchase(), 20);
        }
        checks.due("call 508", desk.trueUp(), 20);
        checks.due("call 509", desk.covered(), 2);
        checks.due("call 510", desk.spent(), 20L);
        checks.due("call 511", desk.retire(0), 1);
        checks.due("call 512", desk.coverage(), 1.0f);
    }

    private static void overview(Sentences document) {
        document.setAside("Installs of products are covered by entitlements that are counted by devices, users or cores; "
                + "entitlements have rights to go down and up, cover bundles, belong to pools, and allow second uses.");
        document.setAside("The desk finds the cover of as many installs as possible, tells why others lack it, and finds "
                + "the least purchase that covers all.");
        document.test("Both are found by a search that gives up what cannot become better, and by trying all.",
                TermsTest::bothWaysFindTheSame);
        document.setAside("The class is not thread-safe.");
    }

    private static void bothWaysFindTheSame() {
        checks.due("cover of none", new Entitled().covered(), new Entitled().coveredByTrying());
        checks.due("purchase for none", new Entitled().purchase(), new Entitled().purchaseByTrying());
        checks.due("cover of three", Desks.some().covered(), Desks.some().coveredByTrying());
        checks.due("purchase for three", Desks.some().purchase(), Desks.some().purchaseByTrying());
        Entitled desk = Desks.sixThere();
        desk.retire(0);
        desk.retire(5);
        checks.due("cover of four", desk.covered(), desk.coveredByTrying());
        checks.due("purchase for four", desk.purchase(), desk.purchaseByTrying());
    }

    // ---- installs ----

    private static void installs(Sentences document) {
        document.test("Installs. At most 12 installs are made, numbered from 0", TermsTest::twelveMade);
        document.test("at most 6 of them are there at a time", TermsTest::sixThere);
        document.test("the others are retired.", TermsTest::othersAreRetired);
        document.test("An install has a product from 0 to 3", () -> rangeOfInstall(0, 0, 3));
        document.test("a version from 1 to 9", () -> {
            rangeOfInstall(1, 1, 9);
            rangeOfSet(1, 9, (desk, version) -> desk.setVersion(0, version, 2));
        });
        document.test("an edition from 1 to 3", () -> {
            rangeOfInstall(2, 1, 3);
            rangeOfSet(1, 3, (desk, edition) -> desk.setVersion(0, 5, edition));
        });
        document.test("a device and a user from 0 to 9", () -> {
            rangeOfInstall(3, 0, 9);
            rangeOfInstall(4, 0, 9);
            rangeOfSet(0, 9, (desk, device) -> desk.moveTo(0, device, 5));
            rangeOfSet(0, 9, (desk, user) -> desk.moveTo(0, 5, user));
        });
        document.test("a number of cores from 1 to 16", () -> rangeOfInstall(5, 1, 16));
        document.test("and a pool from 0 to 2.", () -> {
            rangeOfInstall(6, 0, 2);
            rangeOfSet(0, 2, (desk, pool) -> desk.setPool(0, pool));
        });
    }

    private static void twelveMade() {
        Entitled desk = new Entitled();
        for (int i = 0; i < 12; i++) {
            checks.due("install " + i, Desks.put(desk, 0, 0, 0), i);
            checks.due("retire(" + i + ")", desk.retire(i), 0);
        }
        checks.thrown("a thirteenth", Checks.STATE, () -> Desks.put(desk, 0, 0, 0));
        checks.due("no thirteenth is there", desk.isThere(12), false);
    }

    private static void sixThere() {
        Entitled desk = new Entitled();
        for (int i = 0; i < 6; i++) {
            checks.due("install " + i, Desks.put(desk, 0, 0, 0), i);
        }
        checks.thrown("a seventh there", Checks.STATE, () -> Desks.put(desk, 0, 0, 0));
        checks.due("installs()", desk.installs(), 6);
        desk.retire(3);
        checks.due("a seventh in the place of another", Desks.put(desk, 0, 0, 0), 6);
        checks.thrown("an eighth", Checks.STATE, () -> Desks.put(desk, 0, 0, 0));
    }

    private static void othersAreRetired() {
        for (int i = 0; i < 12; i++) {
            checks.due("isThere(" + i + ") of twelve", Desks.full().isThere(i), i >= 6);
        }
        checks.due("installs() of twelve", Desks.full().installs(), 6);
    }

    private static void rangeOfInstall(int at, int low, int high) {
        for (int value = low; value <= high; value++) {
            checks.due("install with value " + at + " of " + value, install(new Entitled(), at, value), 0);
        }
        for (int bad : outside(low, high)) {
            checks.refused("install with value " + at + " of " + bad, Checks.RANGE, Desks::some,
                    desk -> install(desk, at, bad));
        }
    }

    private static int install(Entitled desk, int at, int value) {
        int[] v = {1, 5, 2, 5, 5, 8, 1};
        v[at] = value;
        return desk.install(v[0], v[1], v[2], v[3], v[4], v[5], v[6]);
    }

    private static void rangeOfSet(int low, int high, Checks.NumberCall set) {
        for (int value = low; value <= high; value++) {
            int good = value;
            Entitled desk = Desks.some();
            checks.due("set to " + value, Checks.answerOrClass(() -> set.on(desk, good)) instanceof Integer, true);
        }
        for (int bad : outside(low, high)) {
            checks.refused("set to " + bad, Checks.RANGE, Desks::some, desk -> set.on(desk, bad));
        }
    }

    private static int[] outside(int low, int high) {
        return new int[] {low - 1, high + 1, low - 65536, high + 256, Integer.MIN_VALUE, Integer.MAX_VALUE};
    }

    // ---- entitlements ----

    private static void entitlements(Sentences document) {
        document.test("Entitlements. At most 5 entitlements", TermsTest::fiveEntitlements);
        document.test("have the numbers 0 to n - 1 in the order in which they were added.", TermsTest::numbersByOrder);
        document.test("An entitlement has a set of products, told as the sum of 1 for the product 0, 2 for 1, 4 for 2 "
                + "and 8 for 3", TermsTest::productsOfSets);
        document.test("a version, an edition,", () -> {
            rangeOfEntitle(1, 1, 9);
            rangeOfEntitle(2, 1, 3);
        });
        document.test("a metric, 'd' for devices, 'u' for users or 'c' for cores", TermsTest::metrics);
        document.test("a number of units", TermsTest::numberOfUnits);
        document.test("a pool from 0 to 2, or -1 for all of them", TermsTest::poolsOfEntitlements);
        document.test("a minimum of cores from 1 to 16, 1 at first", TermsTest::minimums);
        document.test("a price for a unit from 1 to 99, 10 at first", TermsTest::prices);
        document.test("and the rights to go down, to go up and of second use, none of them at first.",
                TermsTest::noRightsAtFirst);
    }

    private static void fiveEntitlements() {
        Entitled desk = new Entitled();
        for (int e = 0; e < 5; e++) {
            checks.due("entitlement " + e, Desks.add(desk, 1, 'd', 0), e);
        }
        checks.thrown("a sixth", Checks.STATE, () -> Desks.add(desk, 1, 'd', 0));
        checks.thrown("units(5)", Checks.INDEX, () -> desk.units(5));
    }

    private static void numbersByOrder() {
        Entitled desk = new Entitled();
        for (int n = 0; n < 5; n++) {
            int next = n;
            checks.thrown("units(" + n + ") of " + n, Checks.INDEX, () -> desk.units(next));
            checks.due("the number of the next", Desks.add(desk, 1, 'd', 10 + n), n);
            for (int e = 0; e <= n; e++) {
                checks.due("units(" + e + ") of " + (n + 1), desk.units(e), 10 + e);
            }
        }
    }

    private static void productsOfSets() {
        for (int set = 1; set <= 15; set++) {
            Entitled desk = new Entitled();
            Desks.add(desk, set, 'd', 9);
            String members = set >= 8 ? "3" : "";
            members += set % 8 >= 4 ? "2" : "";
            members += set % 4 >= 2 ? "1" : "";
            members += set % 2 == 1 ? "0" : "";
            for (int product = 0; product < 4; product++) {
                Desks.put(desk, product, product, 0);
                boolean in = members.contains(String.valueOf(product));
                checks.due("product " + product + " in " + set, desk.why(product, 0), in ? '-' : 'p');
            }
            checks.due("units for the set " + set, desk.unitsForAll(0), members.length());
        }
        rangeOfEntitle(0, 1, 15);
    }

    private static void rangeOfEntitle(int at, int low, int high) {
        for (int value = low; value <= high; value++) {
            checks.due("entitle with value " + at + " of " + value, entitle(new Entitled(), at, value), 0);
        }
        for (int bad : outside(low, high)) {
            checks.refused("entitle with value " + at + " of " + bad, Checks.RANGE, Desks::some,
                    desk -> entitle(desk, at, bad));
        }
    }

    private static int entitle(Entitled desk, int at, int value) {
        int[] v = {3, 5, 2, 'd', 50, 1};
        v[at] = value;
        return desk.entitle(v[0], v[1], v[2], (char) v[3], v[4], v[5]);
    }

    private static void metrics() {
        Entitled desk = new Entitled();
        Desks.add(desk, 15, 'd', 0);
        Desks.add(desk, 15, 'u', 0);
        Desks.add(desk, 15, 'c', 0);
        desk.install(0, 5, 2, 0, 0, 7, 0);
        desk.install(0, 5, 2, 0, 1, 8, 0);
        desk.install(1, 5, 2, 0, 2, 9, 0);
        checks.due("counted by devices", desk.unitsForAll(0), 2);
        checks.due("counted by users", desk.unitsForAll(1), 3);
        checks.due("counted by cores", desk.unitsForAll(2), 24);
        everyOtherMetric();
    }

    private static void everyOtherMetric() {
        Entitled desk = new Entitled();
        for (int sign = 0; sign <= Character.MAX_VALUE; sign++) {
            char metric = (char) sign;
            if ("duc".indexOf(metric) >= 0) {
                continue;
            }
            if (sign % 500 == 0) {
                checks.due("no entitlement came from a wrong metric", Desks.add(desk, 1, 'd', 0), 0);
                desk = new Entitled();
            }
            Entitled asked = desk;
            checks.thrown("entitle with metric " + sign, Checks.RANGE, () -> Desks.add(asked, 1, metric, 0));
        }
    }

    private static void numberOfUnits() {
        rangeOfEntitle(4, 0, 99);
        for (int units = 0; units <= 99; units++) {
            Entitled desk = new Entitled();
            Desks.add(desk, 1, 'd', units);
            checks.due("units(0)", desk.units(0), units);
        }
    }

    private static void poolsOfEntitlements() {
        for (int its = -1; its <= 2; its++) {
            Entitled desk = new Entitled();
            desk.entitle(1, 5, 2, 'd', 1, its);
            for (int pool = 0; pool < 3; pool++) {
                desk.install(0, 5, 2, 0, 0, 1, pool);
                boolean in = its == -1 || its == pool;
                checks.due("pool " + pool + " for " + its, desk.why(pool, 0), in ? '-' : 'o');
            }
        }
        rangeOfEntitle(5, -1, 2);
    }

    private static void minimums() {
        Entitled desk = new Entitled();
        Desks.add(desk, 1, 'c', 0);
        Desks.put(desk, 0, 0, 0);
        checks.due("units for one core", desk.unitsForAll(0), 1);
        for (int minimum = 1; minimum <= 16; minimum++) {
            checks.due("the minimum before " + minimum, desk.setMinimum(0, minimum), Math.max(1, minimum - 1));
            checks.due("units with the minimum " + minimum, desk.unitsForAll(0), minimum);
        }
        for (int bad : outside(1, 16)) {
            checks.refused("a minimum of " + bad, Checks.RANGE, Desks::some, other -> other.setMinimum(2, bad));
        }
    }

    private static void prices() {
        Entitled desk = new Entitled();
        Desks.add(desk, 1, 'd', 0);
        Desks.put(desk, 0, 0, 0);
        checks.due("a unit at first", desk.purchase(), 10);
        for (int price = 1; price <= 99; price++) {
            checks.due("the price before " + price, desk.setPrice(0, price), price == 1 ? 10 : price - 1);
            checks.due("a unit at " + price, desk.purchase(), price);
        }
        for (int bad : outside(1, 99)) {
            checks.refused("a price of " + bad, Checks.RANGE, Desks::some, other -> other.setPrice(0, bad));
        }
    }

    private static void noRightsAtFirst() {
        for (char metric : new char[] {'d', 'u', 'c'}) {
            Entitled desk = new Entitled();
            Desks.add(desk, 1, metric, 0);
            desk.install(0, 4, 2, 0, 0, 1, 0);
            desk.install(0, 6, 2, 0, 0, 1, 0);
            desk.install(0, 5, 1, 0, 0, 1, 0);
            checks.due("may not go down to a version", desk.why(0, 0), 'v');
            checks.due("may not go up to a version", desk.why(1, 0), 'v');
            checks.due("may not go down to an edition", desk.why(2, 0), 'e');
            Desks.put(desk, 0, 0, 0);
            Desks.put(desk, 0, 0, 0);
            checks.due("may not be used a second time", desk.unitsForAll(0), 2);
            checks.due("rights at first", desk.setRights(0, true, true, true), 0);
        }
    }

    // ---- fitting ----

    private static void fitting(Sentences document) {
        document.test("Fitting. An entitlement fits an install if none of the following reasons holds",
                TermsTest::fitsIfNoReasonHolds);
        document.test("'p' the product is not in its set", TermsTest::productNotInSet);
        document.test("'o' it has a pool, and the install is in another one", TermsTest::anotherPool);
        document.test("'e' the edition of the install is greater, or it is lower and there is no right to go down",
                TermsTest::editions);
        document.test("'v' the version of the install is lower and there is no right to go down, or it is greater and "
                + "there is no right to go up.", TermsTest::versions);
    }

    private static void fitsIfNoReasonHolds() {
        int[][] wrong = {{1, 5, 2, 0}, {0, 5, 2, 1}, {0, 5, 3, 0}, {0, 6, 2, 0}, {0, 5, 2, 0}};
        char[] due = {'p', 'o', 'e', 'v', '-'};
        for (int k = 0; k < wrong.length; k++) {
            Entitled desk = new Entitled();
            desk.entitle(1, 5, 2, 'd', 1, 0);
            desk.install(wrong[k][0], wrong[k][1], wrong[k][2], 0, 0, 1, wrong[k][3]);
            checks.due("why for " + due[k], desk.why(0, 0), due[k]);
            checks.due("fitting for " + due[k], desk.fitting(0), due[k] == '-' ? 1 : 0);
            checks.due("covered for " + due[k], desk.covered(), due[k] == '-' ? 1 : 0);
            checks.due("unitsForAll for " + due[k], desk.unitsForAll(0), due[k] == '-' ? 1 : 0);
        }
    }

    private static void productNotInSet() {
        Entitled desk = new Entitled();
        for (int product = 0; product < 4; product++) {
            Desks.put(desk, product, 0, 0);
            Desks.add(desk, 15 - (1 << product), 'd', 9);
            desk.setRights(product, true, true, true);
        }
        for (int install = 0; install < 4; install++) {
            for (int e = 0; e < 4; e++) {
                checks.due("why(" + install + ", " + e + ")", desk.why(install, e), install == e ? 'p' : '-');
            }
        }
    }

    private static void anotherPool() {
        for (int pool = 0; pool < 3; pool++) {
            Entitled desk = new Entitled();
            desk.install(0, 5, 2, 0, 0, 1, pool);
            for (int its = -1; its < 3; its++) {
                desk.entitle(1, 5, 2, 'd', 9, its);
                desk.setRights(its + 1, true, true, true);
                checks.due("pool " + pool + " for " + its, desk.why(0, its + 1), its == -1 || its == pool ? '-' : 'o');
            }
        }
    }

    private static void editions() {
        for (int its = 1; its <= 3; its++) {
            for (int edition = 1; edition <= 3; edition++) {
                for (int rights = 0; rights < 8; rights++) {
                    boolean down = rights % 2 == 1;
                    boolean out = edition > its || edition < its && !down;
                    checks.due("edition " + edition + " for " + its + " with rights " + rights,
                            whyWith(5, its, rights, 5, edition), out ? 'e' : '-');
                }
            }
        }
    }

    private static void versions() {
        for (int its = 1; its <= 9; its++) {
            for (int version = 1; version <= 9; version++) {
                for (int rights = 0; rights < 8; rights++) {
                    boolean down = rights % 2 == 1;
                    boolean up = rights / 2 % 2 == 1;
                    boolean in = version == its || (version < its ? down : up);
                    checks.due("version " + version + " for " + its + " with rights " + rights,
                            whyWith(its, 2, rights, version, 2), in ? '-' : 'v');
                }
            }
        }
    }

    private static char whyWith(int itsVersion, int itsEdition, int rights, int version, int edition) {
        Entitled desk = new Entitled();
        desk.entitle(1, itsVersion, itsEdition, 'd', 1, -1);
        desk.setRights(0, rights % 2 == 1, rights / 2 % 2 == 1, rights / 4 == 1);
        desk.install(0, version, edition, 0, 0, 1, 0);
        return desk.why(0, 0);
    }

    // ---- units ----

    private static void units(Sentences document) {
        document.test("Units. An assignment gives each install that is there an entitlement that fits it, or none.",
                TermsTest::assignments);
        document.test("The units that an entitlement needs by it are found from the installs that have it",
                TermsTest::unitsOfThoseThatHaveIt);
        document.test("for devices, the sum over all devices of the greatest number of installs of one product on the "
                + "device", () -> unitsOfHolders('d'));
        document.test("for users, the sum over all users of the greatest number of installs of one product of the user",
                () -> unitsOfHolders('u'));
        document.test("where with the right of second use two installs count as one, and what is left over as one, too",
                TermsTest::secondUses);
        document.test("for cores, the sum over all installs of their cores, or of the minimum if that is greater.",
                TermsTest::unitsOfCores);
    }

    private static void assignments() {
        Entitled desk = new Entitled();
        Desks.add(desk, 1, 'd', 99);
        Desks.put(desk, 0, 0, 0);
        Desks.put(desk, 0, 1, 0);
        Desks.put(desk, 1, 2, 0);
        checks.due("those that it fits", desk.covered(), 2);
        checks.due("reason of the one that it does not fit", desk.reason(2), 'n');
        desk.retire(0);
        checks.due("those that are there", desk.covered(), 1);
        checks.due("used for those that are there", desk.used(0), 1);
        checks.due("units for those that are there", desk.unitsForAll(0), 1);
        desk.retire(2);
        checks.due("purchase for those that are there", desk.purchase(), 0);
    }

    private static void unitsOfThoseThatHaveIt() {
        Entitled desk = new Entitled();
        Desks.add(desk, 15, 'c', 5);
        Desks.add(desk, 15, 'd', 9);
        checks.due("used by none", desk.used(0), 0);
        desk.install(0, 5, 2, 0, 0, 4, 0);
        desk.install(0, 5, 2, 0, 0, 3, 0);
        desk.install(0, 5, 2, 0, 0, 1, 0);
        checks.due("used by the first and the third", desk.used(0), 5);
        checks.due("used by the second", desk.used(1), 1);
    }

    private static void unitsOfHolders(char metric) {
        // A row is the product and the holder of an install, and the units that are needed from there on.
        int[][] rows = {{0, 0, 1}, {1, 0, 1}, {1, 0, 2}, {3, 0, 2}, {3, 9, 3}, {2, 9, 3}};
        Entitled desk = new Entitled();
        Desks.add(desk, 15, metric, 99);
        checks.due("no installs by " + metric, desk.unitsForAll(0), 0);
        for (int i = 0; i < rows.length; i++) {
            // The other kind of holder is another one each time, and must not count.
            int device = metric == 'd' ? rows[i][1] : i;
            int user = metric == 'u' ? rows[i][1] : i;
            desk.install(rows[i][0], 5, 2, device, user, 16, 0);
            checks.due((i + 1) + " installs by " + metric, desk.unitsForAll(0), rows[i][2]);
            checks.due((i + 1) + " installs used by " + metric, desk.used(0), rows[i][2]);
        }
        Entitled six = new Entitled();
        Desks.add(six, 15, metric, 99);
        for (int i = 0; i < 6; i++) {
            Desks.put(six, 3, 9, 9);
            checks.due("of one product on the last holder by " + metric, six.unitsForAll(0), i + 1);
        }
    }

    private static void secondUses() {
        Entitled desk = new Entitled();
        Desks.add(desk, 15, 'u', 99);
        desk.setRights(0, false, false, true);
        checks.due("no installs", desk.unitsForAll(0), 0);
        for (int i = 1; i <= 6; i++) {
            Desks.put(desk, 0, i, 0);
            checks.due(i + " installs of a user", desk.unitsForAll(0), i / 2 + i % 2);
        }
        desk.moveTo(0, 0, 1);
        checks.due("five and one of two users", desk.unitsForAll(0), 4);
        desk.moveTo(1, 0, 1);
        checks.due("four and two of two users", desk.unitsForAll(0), 3);
        secondUsesOfBundles();
    }

    private static void secondUsesOfBundles() {
        Entitled desk = new Entitled();
        Desks.add(desk, 15, 'u', 99);
        Desks.add(desk, 15, 'd', 99);
        desk.setRights(0, false, false, true);
        desk.setRights(1, false, false, true);
        int[] products = {0, 1, 0, 1, 0, 1};
        int[] due = {1, 1, 1, 1, 2, 2};
        for (int i = 0; i < 6; i++) {
            Desks.put(desk, products[i], 0, 0);
            checks.due("a bundle of " + (i + 1) + " by users", desk.unitsForAll(0), due[i]);
            checks.due("a bundle of " + (i + 1) + " by devices", desk.unitsForAll(1), i / 2 + 1);
        }
    }

    private static void unitsOfCores() {
        Entitled desk = new Entitled();
        Desks.add(desk, 15, 'c', 0);
        desk.setRights(0, false, false, true);
        checks.due("no installs", desk.unitsForAll(0), 0);
        for (int i = 0; i < 6; i++) {
            desk.install(0, 5, 2, 0, 0, 16, 0);
        }
        checks.due("the greatest sum", desk.unitsForAll(0), 96);
        desk.retire(5);
        desk.install(0, 5, 2, 0, 0, 4, 0);
        for (int minimum = 1; minimum <= 16; minimum++) {
            desk.setMinimum(0, minimum);
            checks.due("four cores with a minimum of " + minimum, desk.unitsForAll(0), 80 + Math.max(4, minimum));
        }
    }

    // ---- cover ----

    private static void cover(Sentences document) {
        document.test("Cover. An assignment is allowed if no entitlement needs more units than it has.",
                TermsTest::allowed);
        document.test("The cover is the allowed assignment that gives most installs an entitlement",
                TermsTest::mostInstalls);
        document.test("of several, the one in which the install with the lowest number has the entitlement with the "
                + "lowest number", TermsTest::lowestNumbers);
        document.test("and none only if there is no other way", TermsTest::noneOnlyIfThereIsNoOtherWay);
        document.test("then the same for the next install, and so on.", TermsTest::theNextInstalls);
    }

    private static void dueCover(String text, Entitled desk, int... due) {
        int count = 0;
        for (int i = 0; i < due.length; i++) {
            int install = i;
            Object want = due[i] < 0 ? Checks.NONE : (Object) due[i];
            checks.due(text + ": entitlementOf(" + i + ")", Checks.answerOrClass(() -> desk.entitlementOf(install)), want);
            count += due[i] < 0 ? 0 : 1;
        }
        checks.due(text + ": covered()", desk.covered(), count);
        if (due.length <= 4) {
            checks.due(text + ": coveredByTrying()", desk.coveredByTrying(), count);
        }
    }

    private static void allowed() {
        for (char metric : new char[] {'d', 'u', 'c'}) {
            Entitled desk = new Entitled();
            Desks.add(desk, 1, metric, 0);
            desk.install(0, 5, 2, 0, 0, 3, 0);
            int need = metric == 'c' ? 3 : 1;
            for (int units = 0; units <= need + 1; units++) {
                dueCover(units + " units by " + metric, desk, units < need ? -1 : 0);
                desk.addUnits(0, 1);
            }
        }
    }

    private static void mostInstalls() {
        Entitled desk = new Entitled();
        Desks.add(desk, 1, 'c', 4);
        desk.install(0, 5, 2, 0, 0, 4, 0);
        desk.install(0, 5, 2, 0, 0, 2, 0);
        desk.install(0, 5, 2, 0, 0, 2, 0);
        dueCover("two small ones for a large one", desk, -1, 0, 0);
        desk.addUnits(0, 3);
        dueCover("a unit too few for all", desk, 0, 0, -1);
        desk.addUnits(0, 1);
        dueCover("units for all", desk, 0, 0, 0);
    }

    private static void lowestNumbers() {
        Entitled desk = new Entitled();
        for (int e = 0; e < 5; e++) {
            Desks.add(desk, 1, 'd', 0);
        }
        Desks.put(desk, 0, 0, 0);
        dueCover("no units", desk, -1);
        for (int e = 4; e >= 0; e--) {
            desk.addUnits(e, 1);
            dueCover("units from " + e + " on", desk, e);
        }
    }

    private static void noneOnlyIfThereIsNoOtherWay() {
        Entitled desk = new Entitled();
        Desks.add(desk, 1, 'd', 1);
        Desks.put(desk, 0, 0, 0);
        Desks.put(desk, 0, 1, 0);
        Desks.put(desk, 0, 2, 0);
        dueCover("the first of three", desk, 0, -1, -1);
        desk.addUnits(0, 1);
        dueCover("the first two of three", desk, 0, 0, -1);
        desk.setVersion(0, 6, 2);
        dueCover("the last two of three", desk, -1, 0, 0);
        Entitled last = new Entitled();
        Desks.add(last, 2, 'd', 9);
        Desks.add(last, 1, 'c', 2);
        last.install(0, 5, 2, 0, 0, 2, 0);
        last.install(0, 5, 2, 0, 0, 1, 0);
        dueCover("the last number rather than none", last, 1, -1);
    }

    private static void theNextInstalls() {
        Entitled desk = new Entitled();
        Desks.add(desk, 3, 'd', 1);
        Desks.add(desk, 1, 'd', 1);
        Desks.put(desk, 0, 0, 0);
        Desks.put(desk, 1, 1, 0);
        dueCover("most before the lowest number", desk, 1, 0);
        desk.addUnits(0, 1);
        dueCover("then the lowest numbers", desk, 0, 0);
        Entitled six = new Entitled();
        for (int e = 0; e < 5; e++) {
            Desks.add(six, 1, 'd', 1);
        }
        for (int i = 0; i < 6; i++) {
            Desks.put(six, 0, i, 0);
        }
        dueCover("each its own, and none for the last", six, 0, 1, 2, 3, 4, -1);
        six.addUnits(2, 1);
        dueCover("one more of the third", six, 0, 1, 2, 2, 3, 4);
    }

    // ---- purchase ----

    private static void purchase(Sentences document) {
        document.test("Purchase. The purchase is found for assignments that give each install an entitlement, whether "
                + "they are allowed or not", TermsTest::eachInstallAllowedOrNot);
        document.test("for each entitlement its price times the units that it needs beyond those that it has.",
                TermsTest::priceTimesUnitsBeyond);
        document.test("The least purchase is that of the assignment for which the sum of these is least",
                TermsTest::leastSum);
        document.test("of several, the one that comes first in the way in which covers are compared.",
                TermsTest::firstOfSeveral);
    }

    private static void duePurchase(String text, Entitled desk, int sum, int... toBuy) {
        checks.due(text + ": purchase()", desk.purchase(), sum);
        if (desk.installs() <= 4) {
            checks.due(text + ": purchaseByTrying()", desk.purchaseByTrying(), sum);
        }
        for (int e = 0; e < toBuy.length; e++) {
            checks.due(text + ": toBuy(" + e + ")", desk.toBuy(e), toBuy[e]);
        }
    }

    private static void eachInstallAllowedOrNot() {
        Entitled desk = new Entitled();
        Desks.add(desk, 15, 'd', 0);
        duePurchase("no installs", desk, 0, 0);
        for (int i = 0; i < 6; i++) {
            Desks.put(desk, i % 4, i, 0);
            duePurchase((i + 1) + " installs without units", desk, 10 * (i + 1), i + 1);
        }
    }

    private static void priceTimesUnitsBeyond() {
        Entitled desk = new Entitled();
        Desks.add(desk, 1, 'c', 5);
        Desks.add(desk, 2, 'd', 99);
        desk.setPrice(1, 99);
        desk.install(1, 5, 2, 0, 0, 16, 0);
        desk.install(0, 5, 2, 0, 0, 4, 0);
        duePurchase("fewer than it has", desk, 0, 0, 0);
        desk.install(0, 5, 2, 0, 0, 1, 0);
        duePurchase("as many as it has", desk, 0, 0, 0);
        desk.install(0, 5, 2, 0, 0, 1, 0);
        duePurchase("one beyond", desk, 10, 1, 0);
        desk.setMinimum(0, 16);
        duePurchase("many beyond", desk, 430, 43, 0);
        desk.setPrice(0, 99);
        duePurchase("at the greatest price", desk, 4257, 43, 0);
        desk.setPrice(0, 1);
        duePurchase("at the least price", desk, 43, 43, 0);
    }

    private static void leastSum() {
        Entitled desk = new Entitled();
        Desks.add(desk, 1, 'd', 0);
        Desks.add(desk, 1, 'u', 0);
        Desks.put(desk, 0, 0, 0);
        Desks.put(desk, 0, 1, 0);
        desk.setPrice(0, 11);
        duePurchase("a dearer first", desk, 20, 0, 2);
        desk.setRights(1, false, false, true);
        duePurchase("a second use", desk, 10, 0, 1);
        desk.setPrice(0, 4);
        duePurchase("two cheap ones", desk, 8, 2, 0);
        desk.addUnits(1, 1);
        duePurchase("units that are there already", desk, 0, 0, 0);
        Entitled greatest = new Entitled();
        Desks.add(greatest, 1, 'c', 0);
        greatest.setPrice(0, 99);
        for (int i = 0; i < 6; i++) {
            greatest.install(0, 5, 2, 0, 0, 16, 0);
        }
        duePurchase("the greatest sum", greatest, 9504, 96);
    }

    private static void firstOfSeveral() {
        Entitled desk = new Entitled();
        Desks.add(desk, 1, 'd', 0);
        Desks.add(desk, 3, 'd', 0);
        Desks.put(desk, 0, 0, 0);
        duePurchase("the lowest number", desk, 10, 1, 0);
        Desks.put(desk, 1, 0, 0);
        duePurchase("one for both", desk, 10, 0, 1);
        desk.moveTo(1, 1, 0);
        duePurchase("the lowest number for the lowest install", desk, 20, 1, 1);
        Entitled six = new Entitled();
        Desks.add(six, 1, 'd', 0);
        Desks.add(six, 1, 'd', 2);
        for (int i = 0; i < 6; i++) {
            Desks.put(six, 0, i, 0);
        }
        duePurchase("those that it has are used by the last", six, 40, 4, 0);
        Entitled five = new Entitled();
        for (int e = 0; e < 5; e++) {
            Desks.add(five, 1, 'd', 0);
        }
        for (int i = 0; i < 4; i++) {
            Desks.put(five, 0, i, i);
        }
        duePurchase("all are equal", five, 40, 4, 0, 0, 0, 0);
    }

    // ---- exceptions ----

    private static void exceptions(Sentences document) {
        document.test("Exceptions. A method that throws an exception changes nothing.", TermsTest::nothingChanges);
        document.test("If several exceptions apply, the one that is listed first is thrown.", TermsTest::firstIsThrown);
    }

    private static void nothingChanges() {
        checks.refused("install", Checks.RANGE, Desks::some, desk -> desk.install(0, 5, 2, 0, 0, 1, 3));
        checks.refused("install", Checks.STATE, Desks::sixThere, desk -> Desks.put(desk, 3, 9, 9));
        checks.refused("install", Checks.STATE, Desks::twelveMade, desk -> Desks.put(desk, 3, 9, 9));
        checks.refused("retire", Checks.INDEX, Desks::some, desk -> desk.retire(1));
        checks.refused("moveTo", Checks.INDEX, Desks::some, desk -> desk.moveTo(1, 5, 5));
        checks.refused("moveTo, the device wrong", Checks.RANGE, Desks::some, desk -> desk.moveTo(0, 10, 5));
        checks.refused("moveTo, the user wrong", Checks.RANGE, Desks::some, desk -> desk.moveTo(0, 5, 10));
        checks.refused("setVersion", Checks.INDEX, Desks::some, desk -> desk.setVersion(1, 6, 3));
        checks.refused("setVersion, the version wrong", Checks.RANGE, Desks::some, desk -> desk.setVersion(0, 10, 3));
        checks.refused("setVersion, the edition wrong", Checks.RANGE, Desks::some, desk -> desk.setVersion(0, 6, 4));
        checks.refused("setPool", Checks.INDEX, Desks::some, desk -> desk.setPool(1, 2));
        checks.refused("setPool", Checks.RANGE, Desks::some, desk -> desk.setPool(0, 3));
        checks.refused("entitle", Checks.RANGE, Desks::some, desk -> desk.entitle(1, 5, 2, 'd', 1, 3));
        checks.refused("entitle", Checks.STATE, Desks::full, desk -> Desks.add(desk, 15, 'c', 99));
        checks.refused("setRights", Checks.INDEX, Desks::some, desk -> desk.setRights(3, true, true, true));
        checks.refused("setMinimum", Checks.INDEX, Desks::some, desk -> desk.setMinimum(3, 16));
        checks.refused("setMinimum", Checks.RANGE, Desks::some, desk -> desk.setMinimum(2, 17));
        checks.refused("setMinimum", Checks.UNSUPPORTED, Desks::some, desk -> desk.setMinimum(0, 16));
        checks.refused("setPrice", Checks.INDEX, Desks::some, desk -> desk.setPrice(3, 99));
        checks.refused("setPrice", Checks.RANGE, Desks::some, desk -> desk.setPrice(0, 100));
        checks.refused("addUnits", Checks.INDEX, Desks::some, desk -> desk.addUnits(3, 9));
        checks.refused("addUnits", Checks.RANGE, Desks::some, desk -> desk.addUnits(0, 100));
        checks.refused("addUnits", Checks.STATE, TermsTest::manyUnits, desk -> desk.addUnits(0, 10));
        nothingChangesByQuestions();
    }

    private static void nothingChangesByQuestions() {
        checks.refused("units", Checks.INDEX, Desks::some, desk -> desk.units(3));
        checks.refused("why", Checks.INDEX, Desks::some, desk -> desk.why(1, 0));
        checks.refused("why", Checks.INDEX, Desks::some, desk -> desk.why(0, 3));
        checks.refused("fitting", Checks.INDEX, Desks::some, desk -> desk.fitting(1));
        checks.refused("firstFitting", Checks.INDEX, Desks::some, desk -> desk.firstFitting(1));
        checks.refused("firstFitting", Checks.NONE, Desks::misfit, desk -> desk.firstFitting(1));
        checks.refused("unitsForAll", Checks.INDEX, Desks::some, desk -> desk.unitsForAll(3));
        checks.refused("coveredByTrying", Checks.UNSUPPORTED, Desks::sixThere, Entitled::coveredByTrying);
        checks.refused("entitlementOf", Checks.INDEX, Desks::some, desk -> desk.entitlementOf(1));
        checks.refused("entitlementOf", Checks.NONE, Desks::misfit, desk -> desk.entitlementOf(1));
        checks.refused("reason", Checks.INDEX, Desks::some, desk -> desk.reason(1));
        checks.refused("used", Checks.INDEX, Desks::some, desk -> desk.used(3));
        checks.refused("spare", Checks.INDEX, Desks::some, desk -> desk.spare(3));
        checks.refused("purchase", Checks.NONE, Desks::misfit, Entitled::purchase);
        checks.refused("purchaseByTrying", Checks.UNSUPPORTED, Desks::sixThere, Entitled::purchaseByTrying);
        checks.refused("purchaseByTrying", Checks.NONE, Desks::misfit, Entitled::purchaseByTrying);
        checks.refused("toBuy", Checks.INDEX, Desks::some, desk -> desk.toBuy(3));
        checks.refused("toBuy", Checks.NONE, Desks::misfit, desk -> desk.toBuy(0));
        checks.refused("trueUp", Checks.NONE, Desks::misfit, Entitled::trueUp);
        checks.refused("coverage", Checks.NONE, Desks::allRetired, Entitled::coverage);
    }

    /** The first entitlement of some() with 991 units, so that 8 more are the most that it may get. */
    private static Entitled manyUnits() {
        Entitled desk = Desks.some();
        for (int i = 0; i < 10; i++) {
            desk.addUnits(0, 99);
        }
        return desk;
    }

    private static void firstIsThrown() {
        checks.refused("install out of range, six there", Checks.RANGE, Desks::sixThere, desk -> Desks.put(desk, 4, 0, 0));
        checks.refused("install out of range, twelve made", Checks.RANGE, Desks::twelveMade,
                desk -> Desks.put(desk, 0, 0, 10));
        checks.refused("moveTo of none, out of range", Checks.INDEX, Desks::some, desk -> desk.moveTo(12, 10, -1));
        checks.refused("moveTo of a retired one, out of range", Checks.INDEX, Desks::some, desk -> desk.moveTo(1, -1, 10));
        checks.refused("setVersion of none, out of range", Checks.INDEX, Desks::some, desk -> desk.setVersion(-1, 0, 0));
        checks.refused("setVersion of a retired one, out of range", Checks.INDEX, Desks::some,
                desk -> desk.setVersion(1, 10, 4));
        checks.refused("setPool of none, out of range", Checks.INDEX, Desks::some, desk -> desk.setPool(4, 3));
        checks.refused("setPool of a retired one, out of range", Checks.INDEX, Desks::some, desk -> desk.setPool(1, -1));
        checks.refused("entitle out of range, five added", Checks.RANGE, Desks::full, desk -> Desks.add(desk, 16, 'd', 0));
        checks.refused("setMinimum of none, out of range", Checks.INDEX, Desks::some, desk -> desk.setMinimum(3, 17));
        checks.refused("setMinimum out of range, by devices", Checks.RANGE, Desks::some, desk -> desk.setMinimum(0, 0));
        checks.refused("setMinimum out of range, by users", Checks.RANGE, Desks::some, desk -> desk.setMinimum(1, 17));
        checks.refused("setPrice of none, out of range", Checks.INDEX, Desks::some, desk -> desk.setPrice(-1, 100));
        checks.refused("addUnits of none, out of range", Checks.INDEX, Desks::some, desk -> desk.addUnits(5, 0));
        checks.refused("addUnits out of range, too many", Checks.RANGE, TermsTest::manyUnits, desk -> desk.addUnits(0, 100));
        checks.refused("addUnits wrapping around", Checks.RANGE, TermsTest::manyUnits,
                desk -> desk.addUnits(0, Integer.MAX_VALUE));
        checks.refused("firstFitting of a retired one that none fits", Checks.INDEX, TermsTest::retiredMisfit,
                desk -> desk.firstFitting(1));
        checks.refused("entitlementOf of a retired one that none fits", Checks.INDEX, TermsTest::retiredMisfit,
                desk -> desk.entitlementOf(1));
        checks.refused("purchaseByTrying of five, one that none fits", Checks.UNSUPPORTED, Desks::misfitOfFive,
                Entitled::purchaseByTrying);
        checks.refused("toBuy of none, an install that none fits", Checks.INDEX, Desks::misfit, desk -> desk.toBuy(2));
    }

    private static Entitled retiredMisfit() {
        Entitled desk = Desks.misfit();
        desk.retire(1);
        return desk;
    }
}
