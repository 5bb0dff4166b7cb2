import java.util.NoSuchElementException;

/** A desk for software licences: it covers installs by entitlements and finds the least purchase. */
public final class Entitled {
    private static final int MOST_MADE = 12;
    private static final int MOST_THERE = 6;
    private static final int MOST_TRIED = 4;
    private static final int MOST_ENTITLEMENTS = 5;
    private static final int PRODUCTS = 4;
    private static final int ALL_PRODUCTS = 15;
    private static final int VERSIONS = 9;
    private static final int EDITIONS = 3;
    private static final int HOLDERS = 10;
    private static final int POOLS = 3;
    private static final int EVERY_POOL = -1;
    private static final int MOST_CORES = 16;
    private static final int MOST_UNITS_AT_ONCE = 99;
    private static final int MOST_UNITS = 999;
    private static final int FIRST_PRICE = 10;
    private static final int HIGHEST_PRICE = 99;
    private static final int NO_ENTITLEMENT = -1;
    // Six installs of 16 cores at the highest price cost 9504; no cover has fewer installs than 0.
    private static final int ABOVE_EVERY_COST = 1000000;
    private static final int BELOW_EVERY_COUNT = -1;
    private static final char BY_DEVICE = 'd';
    private static final char BY_USER = 'u';
    private static final char BY_CORE = 'c';
    private static final char FITS = '-';

    private final Install[] installs;
    private final Entitlement[] entitlements;
    private int madeCount;
    private int thereCount;
    private int entitlementCount;
    private long spentSum;

    // What a search works with; every search starts by clearing it.
    private final int[] given;
    private final int[] best;
    private final int[] coverableFrom;
    private int bestValue;

    public Entitled() {
        installs = new Install[MOST_MADE];
        for (int i = 0; i < MOST_MADE; i++) {
            installs[i] = new Install();
        }
        entitlements = new Entitlement[MOST_ENTITLEMENTS];
        for (int e = 0; e < MOST_ENTITLEMENTS; e++) {
            entitlements[e] = new Entitlement();
        }
        given = new int[MOST_MADE];
        best = new int[MOST_MADE];
        coverableFrom = new int[MOST_MADE + 1];
    }

    // ---- installs ----

    public int install(int product, int version, int edition, int device, int user, int cores, int pool)
            throws IllegalArgumentException, IllegalStateException {
        if (!isBetween(product, 0, PRODUCTS - 1) || !isRelease(version, edition) || !isHolder(device)
                || !isHolder(user) || !isBetween(cores, 1, MOST_CORES) || !isPool(pool)) {
            throw new IllegalArgumentException("an install's value is out of range");
        }
        if (thereCount >= MOST_THERE || madeCount >= MOST_MADE) {
            throw new IllegalStateException("no more installs can be made now");
        }
        int number = madeCount;
        installs[number].fill(product, version, edition, device, user, cores, pool);
        madeCount++;
        thereCount++;
        return number;
    }

    public int retire(int install) throws IndexOutOfBoundsException {
        installAt(install).there = false;
        thereCount--;
        return thereCount;
    }

    public int moveTo(int install, int device, int user) throws IndexOutOfBoundsException, IllegalArgumentException {
        Install moved = installAt(install);
        if (!isHolder(device) || !isHolder(user)) {
            throw new IllegalArgumentException("the device or the user is out of range");
        }
        int before = moved.device;
        moved.device = device;
        moved.user = user;
        return before;
    }

    public int setVersion(int install, int version, int edition)
            throws IndexOutOfBoundsException, IllegalArgumentException {
        Install changed = installAt(install);
        if (!isRelease(version, edition)) {
            throw new IllegalArgumentException("the version or the edition is out of range");
        }
        int before = changed.version;
        changed.version = version;
        changed.edition = edition;
        return before;
    }

    public int setPool(int install, int pool) throws IndexOutOfBoundsException, IllegalArgumentException {
        Install changed = installAt(install);
        if (!isPool(pool)) {
            throw new IllegalArgumentException("the pool is out of range");
        }
        int before = changed.pool;
        changed.pool = pool;
        return before;
    }

    public int installs() {
        return thereCount;
    }

    public boolean isThere(int install) {
        return isBetween(install, 0, MOST_MADE - 1) && installs[install].there;
    }

    // ---- entitlements ----

    public int entitle(int products, int version, int edition, char metric, int units, int pool)
            throws IllegalArgumentException, IllegalStateException {
        if (!isBetween(products, 1, ALL_PRODUCTS) || !isRelease(version, edition) || !isMetric(metric)
                || !isBetween(units, 0, MOST_UNITS_AT_ONCE) || !(isPool(pool) || pool == EVERY_POOL)) {
            throw new IllegalArgumentException("an entitlement's value is out of range");
        }
        if (entitlementCount >= MOST_ENTITLEMENTS) {
            throw new IllegalStateException("no more entitlements can be added");
        }
        int number = entitlementCount;
        entitlements[number].fill(products, version, edition, metric, units, pool);
        entitlementCount++;
        return number;
    }

    public int setRights(int entitlement, boolean down, boolean up, boolean second)
            throws IndexOutOfBoundsException {
        Entitlement changed = entitlementAt(entitlement);
        int before = changed.countRights();
        changed.down = down;
        changed.up = up;
        changed.second = second;
        return before;
    }

    public int setMinimum(int entitlement, int cores)
            throws IndexOutOfBoundsException, IllegalArgumentException, UnsupportedOperationException {
        Entitlement changed = entitlementAt(entitlement);
        if (!isBetween(cores, 1, MOST_CORES)) {
            throw new IllegalArgumentException("the minimum is out of range");
        }
        if (changed.metric != BY_CORE) {
            throw new UnsupportedOperationException("the entitlement is not counted by cores");
        }
        int before = changed.minimum;
        changed.minimum = cores;
        return before;
    }

    public int setPrice(int entitlement, int price) throws IndexOutOfBoundsException, IllegalArgumentException {
        Entitlement changed = entitlementAt(entitlement);
        if (!isBetween(price, 1, HIGHEST_PRICE)) {
            throw new IllegalArgumentException("the price is out of range");
        }
        int before = changed.price;
        changed.price = price;
        return before;
    }

    public int addUnits(int entitlement, int units)
            throws IndexOutOfBoundsException, IllegalArgumentException, IllegalStateException {
        Entitlement changed = entitlementAt(entitlement);
        if (!isBetween(units, 1, MOST_UNITS_AT_ONCE)) {
            throw new IllegalArgumentException("the number of units is out of range");
        }
        if (changed.units + units > MOST_UNITS) {
            throw new IllegalStateException("the entitlement would have too many units");
        }
        changed.units += units;
        return changed.units;
    }

    public int units(int entitlement) throws IndexOutOfBoundsException {
        return entitlementAt(entitlement).units;
    }

    // ---- fitting ----

    public char why(int install, int entitlement) throws IndexOutOfBoundsException {
        Install asked = installAt(install);
        return entitlementAt(entitlement).misfit(asked);
    }

    public int fitting(int install) throws IndexOutOfBoundsException {
        return countFitting(installAt(install));
    }

    public int firstFitting(int install) throws IndexOutOfBoundsException, NoSuchElementException {
        Install asked = installAt(install);
        for (int e = 0; e < MOST_ENTITLEMENTS; e++) {
            if (entitlements[e].fits(asked)) {
                return e;
            }
        }
        throw new NoSuchElementException("no entitlement fits the install");
    }

    public int unitsForAll(int entitlement) throws IndexOutOfBoundsException {
        Entitlement asked = entitlementAt(entitlement);
        asked.clearNeed();
        for (int i = 0; i < MOST_MADE; i++) {
            if (asked.fits(installs[i])) {
                asked.serve(installs[i]);
            }
        }
        return asked.needed;
    }

    // ---- cover ----

    public int covered() {
        return findCover();
    }

    public int coveredByTrying() throws UnsupportedOperationException {
        if (thereCount > MOST_TRIED) {
            throw new UnsupportedOperationException("too many installs to try all assignments");
        }
        clearSearch(BELOW_EVERY_COUNT);
        tryCovers(this, 0);
        return bestValue;
    }

    public int entitlementOf(int install) throws IndexOutOfBoundsException, NoSuchElementException {
        int entitlement = entitlementByCover(install);
        if (entitlement == NO_ENTITLEMENT) {
            throw new NoSuchElementException("the install is not covered");
        }
        return entitlement;
    }

    public char reason(int install) throws IndexOutOfBoundsException {
        if (entitlementByCover(install) != NO_ENTITLEMENT) {
            return 'c';
        }
        return fitting(install) == 0 ? 'n' : 'u';
    }

    public int used(int entitlement) throws IndexOutOfBoundsException {
        Entitlement asked = entitlementAt(entitlement);
        findCover();
        serveByBest();
        return asked.needed;
    }

    public int spare(int entitlement) throws IndexOutOfBoundsException {
        int needed = used(entitlement);
        return entitlementAt(entitlement).units - needed;
    }

    // ---- purchase ----

    public int purchase() throws NoSuchElementException {
        checkAllCanBeCovered();
        return findPurchase();
    }

    public int purchaseByTrying() throws UnsupportedOperationException, NoSuchElementException {
        if (thereCount > MOST_TRIED) {
            throw new UnsupportedOperationException("too many installs to try all assignments");
        }
        checkAllCanBeCovered();
        clearSearch(ABOVE_EVERY_COST);
        tryPurchases(this, 0);
        return bestValue;
    }

    public int toBuy(int entitlement) throws IndexOutOfBoundsException, NoSuchElementException {
        Entitlement asked = entitlementAt(entitlement);
        checkAllCanBeCovered();
        findPurchase();
        serveByBest();
        return asked.missing();
    }

    public int trueUp() throws NoSuchElementException {
        checkAllCanBeCovered();
        int sum = findPurchase();
        serveByBest();
        for (int e = 0; e < MOST_ENTITLEMENTS; e++) {
            entitlements[e].units += entitlements[e].missing();
        }
        spentSum += sum;
        return sum;
    }

    public long spent() {
        return spentSum;
    }

    public float coverage() throws NoSuchElementException {
        if (thereCount == 0) {
            throw new NoSuchElementException("no install is there");
        }
        return (float) findCover() / (float) thereCount;
    }

    // ---- ranges ----

    private static boolean isBetween(int value, int lowest, int highest) {
        return value >= lowest && value <= highest;
    }

    private static boolean isRelease(int version, int edition) {
        return isBetween(version, 1, VERSIONS) && isBetween(edition, 1, EDITIONS);
    }

    private static boolean isHolder(int deviceOrUser) {
        return isBetween(deviceOrUser, 0, HOLDERS - 1);
    }

    private static boolean isPool(int pool) {
        return isBetween(pool, 0, POOLS - 1);
    }

    private static boolean isMetric(char metric) {
        return metric == BY_DEVICE || metric == BY_USER || metric == BY_CORE;
    }

    // ---- looking up ----

    private Install installAt(int number) {
        if (!isThere(number)) {
            throw new IndexOutOfBoundsException("no such install is there");
        }
        return installs[number];
    }

    private Entitlement entitlementAt(int number) {
        if (!isBetween(number, 0, entitlementCount - 1)) {
            throw new IndexOutOfBoundsException("no such entitlement");
        }
        return entitlements[number];
    }

    private int countFitting(Install install) {
        int count = 0;
        for (int e = 0; e < MOST_ENTITLEMENTS; e++) {
            if (entitlements[e].fits(install)) {
                count++;
            }
        }
        return count;
    }

    private int entitlementByCover(int install) {
        if (!isThere(install)) {
            throw new IndexOutOfBoundsException("no such install is there");
        }
        findCover();
        return best[install];
    }

    private void checkAllCanBeCovered() {
        for (int i = 0; i < MOST_MADE; i++) {
            if (installs[i].there && countFitting(installs[i]) == 0) {
                throw new NoSuchElementException("no entitlement fits some install");
            }
        }
    }

    // ---- searching ----

    private int findCover() {
        clearSearch(BELOW_EVERY_COUNT);
        coverableFrom[MOST_MADE] = 0;
        for (int i = MOST_MADE - 1; i >= 0; i--) {
            coverableFrom[i] = coverableFrom[i + 1] + (countFitting(installs[i]) > 0 ? 1 : 0);
        }
        searchCover(this, 0, 0);
        return bestValue;
    }

    private int findPurchase() {
        clearSearch(ABOVE_EVERY_COST);
        searchPurchase(this, 0, 0);
        return bestValue;
    }

    // All four walks go through the installs by number, and at each through the entitlements by number, none last:
    // that is the order in which the document compares assignments, so of equals the first one met is kept.

    private static void searchCover(Entitled desk, int at, int count) {
        if (at < 0 || at > MOST_MADE || count + desk.coverableFrom[at] <= desk.bestValue) {
            return;
        }
        if (at == MOST_MADE) {
            desk.keepAsBest(count);
            return;
        }
        for (int e = 0; e < MOST_ENTITLEMENTS; e++) {
            if (desk.entitlements[e].fits(desk.installs[at])) {
                desk.give(at, e);
                // More installs never need fewer units, so what is not allowed now will not become so.
                if (desk.entitlements[e].missing() == 0) {
                    searchCover(desk, at + 1, count + 1);
                }
                desk.takeBack(at, e);
            }
        }
        searchCover(desk, at + 1, count);
    }

    private static void searchPurchase(Entitled desk, int at, int cost) {
        if (at < 0 || at > MOST_MADE || cost >= desk.bestValue) {
            return;
        }
        if (at == MOST_MADE) {
            desk.keepAsBest(cost);
            return;
        }
        if (!desk.installs[at].there) {
            searchPurchase(desk, at + 1, cost);
            return;
        }
        for (int e = 0; e < MOST_ENTITLEMENTS; e++) {
            Entitlement tried = desk.entitlements[e];
            if (tried.fits(desk.installs[at])) {
                int others = cost - tried.missingPrice();
                desk.give(at, e);
                searchPurchase(desk, at + 1, others + tried.missingPrice());
                desk.takeBack(at, e);
            }
        }
    }

    private static void tryCovers(Entitled desk, int at) {
        if (at < 0 || at >= MOST_MADE) {
            int count = desk.countGiven();
            if (desk.isAllowed() && count > desk.bestValue) {
                desk.keepAsBest(count);
            }
            return;
        }
        for (int e = 0; e < MOST_ENTITLEMENTS; e++) {
            if (desk.entitlements[e].fits(desk.installs[at])) {
                desk.give(at, e);
                tryCovers(desk, at + 1);
                desk.takeBack(at, e);
            }
        }
        tryCovers(desk, at + 1);
    }

    private static void tryPurchases(Entitled desk, int at) {
        if (at < 0 || at >= MOST_MADE) {
            int cost = desk.sumOfMissing();
            if (cost < desk.bestValue) {
                desk.keepAsBest(cost);
            }
            return;
        }
        if (!desk.installs[at].there) {
            tryPurchases(desk, at + 1);
            return;
        }
        for (int e = 0; e < MOST_ENTITLEMENTS; e++) {
            if (desk.entitlements[e].fits(desk.installs[at])) {
                desk.give(at, e);
                tryPurchases(desk, at + 1);
                desk.takeBack(at, e);
            }
        }
    }

    // ---- the assignment that a search is at ----

    private void clearSearch(int worstValue) {
        for (int i = 0; i < MOST_MADE; i++) {
            given[i] = NO_ENTITLEMENT;
            best[i] = NO_ENTITLEMENT;
        }
        clearNeeds();
        bestValue = worstValue;
    }

    private void clearNeeds() {
        for (int e = 0; e < MOST_ENTITLEMENTS; e++) {
            entitlements[e].clearNeed();
        }
    }

    private void give(int install, int entitlement) {
        given[install] = entitlement;
        entitlements[entitlement].serve(installs[install]);
    }

    private void takeBack(int install, int entitlement) {
        given[install] = NO_ENTITLEMENT;
        entitlements[entitlement].release(installs[install]);
    }

    private void keepAsBest(int value) {
        bestValue = value;
        System.arraycopy(given, 0, best, 0, MOST_MADE);
    }

    private void serveByBest() {
        clearNeeds();
        for (int i = 0; i < MOST_MADE; i++) {
            if (isBetween(best[i], 0, MOST_ENTITLEMENTS - 1)) {
                entitlements[best[i]].serve(installs[i]);
            }
        }
    }

    private int countGiven() {
        int count = 0;
        for (int i = 0; i < MOST_MADE; i++) {
            if (given[i] != NO_ENTITLEMENT) {
                count++;
            }
        }
        return count;
    }

    private boolean isAllowed() {
        for (int e = 0; e < MOST_ENTITLEMENTS; e++) {
            if (entitlements[e].missing() > 0) {
                return false;
            }
        }
        return true;
    }

    private int sumOfMissing() {
        int sum = 0;
        for (int e = 0; e < MOST_ENTITLEMENTS; e++) {
            sum += entitlements[e].missingPrice();
        }
        return sum;
    }

    /** An install; one that was not made yet, or is retired, is not there, and nothing fits it. */
    private static final class Install {
        private boolean there;
        private int product;
        private int version;
        private int edition;
        private int device;
        private int user;
        private int cores;
        private int pool;

        private void fill(int product, int version, int edition, int device, int user, int cores, int pool) {
            this.there = true;
            this.product = product;
            this.version = version;
            this.edition = edition;
            this.device = device;
            this.user = user;
            this.cores = cores;
            this.pool = pool;
        }
    }

    /** An entitlement, and the units that it needs for the installs that it serves at the moment. */
    private static final class Entitlement {
        // Stays 0, no product at all, until the entitlement is added: so it fits nothing before.
        private int products;
        private int version;
        private int edition;
        private char metric;
        private int units;
        private int pool;
        private int minimum;
        private int price;
        private boolean down;
        private boolean up;
        private boolean second;

        private final int[] served = new int[HOLDERS * PRODUCTS];
        private int needed;

        private void fill(int products, int version, int edition, char metric, int units, int pool) {
            this.products = products;
            this.version = version;
            this.edition = edition;
            this.metric = metric;
            this.units = units;
            this.pool = pool;
            this.minimum = 1;
            this.price = FIRST_PRICE;
        }

        private int countRights() {
            return (down ? 1 : 0) + (up ? 1 : 0) + (second ? 1 : 0);
        }

        private boolean fits(Install install) {
            return install.there && misfit(install) == FITS;
        }

        private char misfit(Install install) {
            if ((products & (1 << install.product)) == 0) {
                return 'p';
            }
            if (pool != EVERY_POOL && pool != install.pool) {
                return 'o';
            }
            if (install.edition > edition || (install.edition < edition && !down)) {
                return 'e';
            }
            if ((install.version < version && !down) || (install.version > version && !up)) {
                return 'v';
            }
            return FITS;
        }

        private void clearNeed() {
            for (int i = 0; i < served.length; i++) {
                served[i] = 0;
            }
            needed = 0;
        }

        private void serve(Install install) {
            changeNeed(install, 1);
        }

        private void release(Install install) {
            changeNeed(install, -1);
        }

        private void changeNeed(Install install, int by) {
            if (metric == BY_CORE) {
                needed += by * Math.max(install.cores, minimum);
                return;
            }
            int holder = metric == BY_DEVICE ? install.device : install.user;
            if (!isBetween(holder, 0, HOLDERS - 1) || !isBetween(install.product, 0, PRODUCTS - 1)) {
                return;
            }
            int before = unitsOfHolder(holder);
            served[holder * PRODUCTS + install.product] += by;
            needed += unitsOfHolder(holder) - before;
        }

        private int unitsOfHolder(int holder) {
            int most = 0;
            for (int product = 0; product < PRODUCTS; product++) {
                int ofProduct = served[holder * PRODUCTS + product];
                if (ofProduct > most) {
                    most = ofProduct;
                }
            }
            return metric == BY_USER && second ? (most + 1) / 2 : most;
        }

        private int missing() {
            return Math.max(0, needed - units);
        }

        private int missingPrice() {
            return price * missing();
        }
    }
}
