import java.io.IOException;

/** Promises 9 to 14: entitlements. Each sentence has a test of its own. */
public final class EntitlementsTest {
    private static final Checks checks = new Checks();

    public static void main(String[] args) throws IOException {
        Sentences document = new Sentences(checks);
        entitle(document);
        setRights(document);
        setMinimum(document);
        setPrice(document);
        addUnits(document);
        units(document);
        document.end();
        checks.end();
    }

    private static Entitled deskWithOne(char metric) {
        Entitled desk = new Entitled();
        Desks.add(desk, 15, metric, 2);
        return desk;
    }

    // ---- entitle ----

    private static void entitle(Sentences document) {
        document.section("Promise 9: entitle");
        document.test("Adds an entitlement.", EntitlementsTest::addsAnEntitlement);
        document.test("the set of products, 1 to 15", () -> rangeOf(0, 1, 15));
        document.test("the number of units, 0 to 99", () -> rangeOf(4, 0, 99));
        document.test("Returns the number of the entitlement.", EntitlementsTest::numbersOfEntitlements);
        document.test("Throws `IllegalArgumentException` if one of them is out of range",
                EntitlementsTest::entitleOutOfRange);
        document.test("Throws `IllegalStateException` if there are 5 entitlements", EntitlementsTest::thereAreFive);
    }

    private static void addsAnEntitlement() {
        Entitled desk = new Entitled();
        desk.install(2, 6, 3, 0, 0, 8, 1);
        desk.entitle(4, 6, 3, 'c', 7, 1);
        checks.due("products, version, edition and pool", desk.why(0, 0), '-');
        checks.due("units", desk.units(0), 7);
        checks.due("metric", desk.unitsForAll(0), 8);
        checks.due("the first minimum", desk.setMinimum(0, 1), 1);
        checks.due("the first price", desk.setPrice(0, 10), 10);
        checks.due("the first rights", desk.setRights(0, false, false, false), 0);
        desk.entitle(11, 6, 3, 'c', 7, 1);
        desk.entitle(4, 6, 3, 'c', 7, 2);
        desk.entitle(4, 6, 2, 'c', 7, 1);
        desk.entitle(4, 5, 3, 'c', 7, 1);
        checks.due("other products", desk.why(0, 1), 'p');
        checks.due("another pool", desk.why(0, 2), 'o');
        checks.due("another edition", desk.why(0, 3), 'e');
        checks.due("another version", desk.why(0, 4), 'v');
    }

    private static void numbersOfEntitlements() {
        Entitled desk = new Entitled();
        checks.due("the least", desk.entitle(1, 1, 1, 'd', 0, -1), 0);
        checks.due("the greatest", desk.entitle(15, 9, 3, 'u', 99, 2), 1);
        checks.due("of cores", desk.entitle(8, 5, 2, 'c', 50, 0), 2);
        checks.due("the same once more", desk.entitle(8, 5, 2, 'c', 50, 0), 3);
        checks.thrown("a refused one", Checks.RANGE, () -> desk.entitle(0, 5, 2, 'c', 50, 0));
        checks.due("the last", desk.entitle(8, 5, 2, 'c', 50, 0), 4);
    }

    private static void rangeOf(int at, int low, int high) {
        for (int value : new int[] {low, low + 1, high - 1, high}) {
            checks.due("entitle with value " + at + " of " + value, entitle(new Entitled(), at, value), 0);
        }
        for (int bad : new int[] {low - 1, high + 1, Integer.MIN_VALUE, Integer.MAX_VALUE}) {
            checks.refused("entitle with value " + at + " of " + bad, Checks.RANGE, Desks::some,
                    desk -> entitle(desk, at, bad));
        }
    }

    private static int entitle(Entitled desk, int at, int value) {
        int[] v = {3, 5, 2, 'd', 50, 1};
        v[at] = value;
        return desk.entitle(v[0], v[1], v[2], (char) v[3], v[4], v[5]);
    }

    private static void entitleOutOfRange() {
        int[] least = {1, 1, 1, 'd', 0, -1};
        int[] most = {15, 9, 3, 'u', 99, 2};
        for (int at = 0; at < least.length; at++) {
            if (at != 3) {
                refuse(least, at, least[at] - 1);
                refuse(least, at, most[at] + 1);
                refuse(most, at, least[at] - 1);
                refuse(most, at, most[at] + 1);
                refuse(most, at, Integer.MIN_VALUE);
                refuse(most, at, Integer.MAX_VALUE);
            }
        }
        char[] badMetrics = {0, 'a', 'b', 'e', 't', 'v', 'C', 'D', 'U', '-', 255, 'd' + 256, 'u' + 256, 'c' + 256, 65535};
        for (char bad : badMetrics) {
            refuse(least, 3, bad);
        }
    }

    private static void refuse(int[] values, int at, int value) {
        int[] v = values.clone();
        v[at] = value;
        checks.refused("entitle with value " + at + " of " + value, Checks.RANGE, Desks::some,
                desk -> desk.entitle(v[0], v[1], v[2], (char) v[3], v[4], v[5]));
    }

    private static void thereAreFive() {
        Entitled desk = new Entitled();
        for (int e = 0; e < 5; e++) {
            checks.due("with " + e, Desks.add(desk, 1, 'd', e), e);
        }
        checks.thrown("with 5", Checks.STATE, () -> Desks.add(desk, 1, 'd', 9));
        checks.due("the last stays", desk.units(4), 4);
        checks.refused("entitle with 5", Checks.STATE, Desks::full, other -> Desks.add(other, 15, 'u', 99));
    }

    // ---- setRights ----

    private static void setRights(Sentences document) {
        document.section("Promise 10: setRights");
        document.test("Sets the rights of an entitlement.", EntitlementsTest::setsRights);
        document.test("Returns how many of the three it had before.", EntitlementsTest::rightsBefore);
        document.test("Throws `IndexOutOfBoundsException` if there is no such entitlement",
                () -> checks.refusedOfNoEntitlement("setRights", (desk, e) -> desk.setRights(e, true, true, true)));
    }

    private static void setsRights() {
        for (int rights = 0; rights < 8; rights++) {
            boolean down = rights % 2 == 1;
            boolean up = rights / 2 % 2 == 1;
            boolean second = rights / 4 == 1;
            Entitled desk = deskWithOne('u');
            Desks.add(desk, 15, 'u', 2);
            desk.setRights(0, !down, !up, !second);
            desk.setRights(0, down, up, second);
            desk.install(0, 4, 1, 0, 0, 1, 0);
            desk.install(0, 6, 2, 0, 0, 1, 0);
            Desks.put(desk, 1, 0, 1);
            Desks.put(desk, 1, 0, 1);
            checks.due("down of rights " + rights, desk.why(0, 0), down ? '-' : 'e');
            checks.due("up of rights " + rights, desk.why(1, 0), up ? '-' : 'v');
            desk.retire(0);
            desk.retire(1);
            checks.due("second of rights " + rights, desk.unitsForAll(0), second ? 1 : 2);
            checks.due("the others stay", desk.setRights(1, true, true, true), 0);
        }
    }

    private static void rightsBefore() {
        for (int rights = 0; rights < 8; rights++) {
            Entitled desk = deskWithOne(rights % 2 == 0 ? 'd' : 'c');
            desk.setRights(0, rights % 2 == 1, rights / 2 % 2 == 1, rights / 4 == 1);
            checks.due("before, of " + rights, desk.setRights(0, true, true, true), Integer.bitCount(rights));
            checks.due("before, of all", desk.setRights(0, false, false, false), 3);
            checks.due("before, of none", desk.setRights(0, false, false, false), 0);
        }
    }

    // ---- setMinimum ----

    private static void setMinimum(Sentences document) {
        document.section("Promise 11: setMinimum");
        document.test("Sets the minimum of cores.", EntitlementsTest::setsMinimum);
        document.test("Returns the minimum before.", EntitlementsTest::minimumBefore);
        document.test("Throws `IndexOutOfBoundsException` if there is no such entitlement",
                () -> checks.refusedOfNoEntitlement("setMinimum", (desk, e) -> desk.setMinimum(e, 16)));
        document.test("Throws `IllegalArgumentException` if it is not between 1 and 16",
                EntitlementsTest::minimumOutOfRange);
        document.test("Throws `UnsupportedOperationException` if the metric is not cores",
                EntitlementsTest::metricIsNotCores);
    }

    private static void setsMinimum() {
        Entitled desk = deskWithOne('c');
        Desks.add(desk, 15, 'c', 0);
        desk.install(0, 5, 2, 0, 0, 4, 0);
        for (int minimum : new int[] {1, 3, 4, 5, 16, 2}) {
            desk.setMinimum(0, minimum);
            checks.due("units with a minimum of " + minimum, desk.unitsForAll(0), Math.max(4, minimum));
        }
        desk.setMinimum(0, 16);
        checks.due("purchase with the greatest minimum for both but one", desk.purchase(), 40);
        checks.due("the others stay", desk.setMinimum(1, 2), 1);
    }

    private static void minimumBefore() {
        Entitled desk = deskWithOne('c');
        checks.due("at first", desk.setMinimum(0, 16), 1);
        checks.due("to the least", desk.setMinimum(0, 1), 16);
        checks.due("to the same", desk.setMinimum(0, 1), 1);
        checks.due("and once more", desk.setMinimum(0, 7), 1);
    }

    private static void minimumOutOfRange() {
        for (int bad : new int[] {0, 17, -1, Integer.MIN_VALUE, Integer.MAX_VALUE}) {
            checks.refused("setMinimum to " + bad, Checks.RANGE, Desks::some, desk -> desk.setMinimum(2, bad));
        }
    }

    private static void metricIsNotCores() {
        checks.refused("setMinimum by devices", Checks.UNSUPPORTED, Desks::some, desk -> desk.setMinimum(0, 16));
        checks.refused("setMinimum by users", Checks.UNSUPPORTED, Desks::some, desk -> desk.setMinimum(1, 1));
        checks.due("setMinimum by cores", Desks.some().setMinimum(2, 1), 3);
    }

    // ---- setPrice ----

    private static void setPrice(Sentences document) {
        document.section("Promise 12: setPrice");
        document.test("Sets the price of a unit.", EntitlementsTest::setsPrice);
        document.test("Returns the price before.", EntitlementsTest::priceBefore);
        document.test("Throws `IndexOutOfBoundsException` if there is no such entitlement",
                () -> checks.refusedOfNoEntitlement("setPrice", (desk, e) -> desk.setPrice(e, 99)));
        document.test("Throws `IllegalArgumentException` if it is not between 1 and 99",
                EntitlementsTest::priceOutOfRange);
    }

    private static void setsPrice() {
        for (char metric : new char[] {'d', 'u', 'c'}) {
            Entitled desk = deskWithOne(metric);
            Desks.add(desk, 8, metric, 0);
            for (int i = 0; i < 3; i++) {
                Desks.put(desk, 0, 0, 0);
            }
            for (int price : new int[] {1, 2, 98, 99}) {
                desk.setPrice(0, price);
                checks.due("a unit by " + metric + " at " + price, desk.purchase(), price);
            }
            checks.due("the others stay", desk.setPrice(1, 9), 10);
        }
    }

    private static void priceBefore() {
        Entitled desk = deskWithOne('d');
        checks.due("at first", desk.setPrice(0, 99), 10);
        checks.due("to the least", desk.setPrice(0, 1), 99);
        checks.due("to the same", desk.setPrice(0, 1), 1);
        checks.due("and once more", desk.setPrice(0, 7), 1);
    }

    private static void priceOutOfRange() {
        for (int bad : new int[] {0, 100, -1, Integer.MIN_VALUE, Integer.MAX_VALUE}) {
            checks.refused("setPrice to " + bad, Checks.RANGE, Desks::some, desk -> desk.setPrice(0, bad));
        }
    }

    // ---- addUnits ----

    private static void addUnits(Sentences document) {
        document.section("Promise 13: addUnits");
        document.test("Adds units to an entitlement.", EntitlementsTest::addsUnits);
        document.test("Returns the number of units then.", EntitlementsTest::unitsThen);
        document.test("Throws `IndexOutOfBoundsException` if there is no such entitlement",
                () -> checks.refusedOfNoEntitlement("addUnits", (desk, e) -> desk.addUnits(e, 1)));
        document.test("Throws `IllegalArgumentException` if it is not between 1 and 99",
                EntitlementsTest::addedOutOfRange);
        document.test("Throws `IllegalStateException` if it would have more than 999",
                EntitlementsTest::moreThanNineHundredNinetyNine);
    }

    private static void addsUnits() {
        Entitled desk = new Entitled();
        Desks.add(desk, 1, 'd', 0);
        Desks.add(desk, 1, 'd', 0);
        Desks.put(desk, 0, 0, 0);
        checks.due("covered() before", desk.covered(), 0);
        desk.addUnits(1, 1);
        checks.due("covered() behind", desk.covered(), 1);
        checks.due("entitlementOf(0)", desk.entitlementOf(0), 1);
        checks.due("units(1)", desk.units(1), 1);
        checks.due("the others stay", desk.units(0), 0);
        checks.due("nothing is spent", desk.spent(), 0L);
    }

    private static void unitsThen() {
        Entitled desk = deskWithOne('d');
        checks.due("the least", desk.addUnits(0, 1), 3);
        checks.due("the greatest", desk.addUnits(0, 99), 102);
        Entitled other = new Entitled();
        Desks.add(other, 1, 'd', 99);
        checks.due("to what was the most to begin with", other.addUnits(0, 99), 198);
    }

    private static void addedOutOfRange() {
        for (int bad : new int[] {0, 100, -1, -99, Integer.MIN_VALUE, Integer.MAX_VALUE}) {
            checks.refused("addUnits of " + bad, Checks.RANGE, Desks::some, desk -> desk.addUnits(0, bad));
        }
    }

    /** The entitlement 0 has 991 units. */
    private static Entitled manyUnits() {
        Entitled desk = Desks.some();
        for (int i = 0; i < 10; i++) {
            desk.addUnits(0, 99);
        }
        return desk;
    }

    private static void moreThanNineHundredNinetyNine() {
        checks.due("addUnits to 998", manyUnits().addUnits(0, 7), 998);
        checks.due("addUnits to 999", manyUnits().addUnits(0, 8), 999);
        checks.refused("addUnits to 1000", Checks.STATE, EntitlementsTest::manyUnits, desk -> desk.addUnits(0, 9));
        checks.refused("addUnits to 1090", Checks.STATE, EntitlementsTest::manyUnits, desk -> desk.addUnits(0, 99));
        checks.refused("addUnits beyond 999", Checks.STATE, EntitlementsTest::mostUnits, desk -> desk.addUnits(0, 1));
    }

    private static Entitled mostUnits() {
        Entitled desk = manyUnits();
        desk.addUnits(0, 8);
        return desk;
    }

    // ---- units ----

    private static void units(Sentences document) {
        document.section("Promise 14: units");
        document.test("Returns the number of units of an entitlement.", EntitlementsTest::unitsOfEach);
        document.test("Returns the number of units.", EntitlementsTest::leastAndMostUnits);
        document.test("Throws `IndexOutOfBoundsException` if there is no such entitlement",
                () -> checks.refusedOfNoEntitlement("units", Entitled::units));
    }

    private static void unitsOfEach() {
        Entitled desk = new Entitled();
        for (int e = 0; e < 5; e++) {
            Desks.add(desk, 1, 'd', 20 * e);
        }
        desk.addUnits(3, 9);
        for (int e = 0; e < 5; e++) {
            checks.due("units(" + e + ")", desk.units(e), 20 * e + (e == 3 ? 9 : 0));
        }
    }

    private static void leastAndMostUnits() {
        Entitled desk = new Entitled();
        Desks.add(desk, 1, 'c', 0);
        checks.due("none", desk.units(0), 0);
        for (int i = 0; i < 6; i++) {
            desk.install(0, 5, 2, 0, 0, 16, 0);
        }
        desk.trueUp();
        checks.due("those that were bought", desk.units(0), 96);
        checks.due("the most", mostUnits().units(0), 999);
    }
}
