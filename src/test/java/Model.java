import java.util.ArrayList;
import java.util.List;
import java.util.NoSuchElementException;

/**
 * The document told a second time in the plainest way, to compare the program with: it keeps no running sums, gives
 * nothing up, and compares whole assignments by the words of the document.
 */
public final class Model {
    private static final class Install {
        boolean there = true;
        int product, version, edition, device, user, cores, pool;
    }

    private static final class Entitlement {
        int products, version, edition, units, pool;
        int minimum = 1;
        int price = 10;
        char metric;
        boolean down, up, second;
    }

    private final List<Install> installs = new ArrayList<>();
    private final List<Entitlement> entitlements = new ArrayList<>();
    private long spent;

    private static void range(int value, int low, int high) {
        if (value < low || value > high) {
            throw new IllegalArgumentException();
        }
    }

    private Install at(int install) {
        if (install < 0 || install >= installs.size() || !installs.get(install).there) {
            throw new IndexOutOfBoundsException();
        }
        return installs.get(install);
    }

    private Entitlement of(int entitlement) {
        if (entitlement < 0 || entitlement >= entitlements.size()) {
            throw new IndexOutOfBoundsException();
        }
        return entitlements.get(entitlement);
    }

    public int install(int product, int version, int edition, int device, int user, int cores, int pool) {
        range(product, 0, 3);
        range(version, 1, 9);
        range(edition, 1, 3);
        range(device, 0, 9);
        range(user, 0, 9);
        range(cores, 1, 16);
        range(pool, 0, 2);
        if (installs() == 6 || installs.size() == 12) {
            throw new IllegalStateException();
        }
        Install x = new Install();
        x.product = product;
        x.version = version;
        x.edition = edition;
        x.device = device;
        x.user = user;
        x.cores = cores;
        x.pool = pool;
        installs.add(x);
        return installs.size() - 1;
    }

    public int retire(int install) {
        at(install).there = false;
        return installs();
    }

    public int moveTo(int install, int device, int user) {
        Install x = at(install);
        range(device, 0, 9);
        range(user, 0, 9);
        int before = x.device;
        x.device = device;
        x.user = user;
        return before;
    }

    public int setVersion(int install, int version, int edition) {
        Install x = at(install);
        range(version, 1, 9);
        range(edition, 1, 3);
        int before = x.version;
        x.version = version;
        x.edition = edition;
        return before;
    }

    public int setPool(int install, int pool) {
        Install x = at(install);
        range(pool, 0, 2);
        int before = x.pool;
        x.pool = pool;
        return before;
    }

    public int installs() {
        return present().size();
    }

    public boolean isThere(int install) {
        return present().contains(install);
    }

    public int entitle(int products, int version, int edition, char metric, int units, int pool) {
        range(products, 1, 15);
        range(version, 1, 9);
        range(edition, 1, 3);
        if ("duc".indexOf(metric) < 0) {
            throw new IllegalArgumentException();
        }
        range(units, 0, 99);
        range(pool, -1, 2);
        if (entitlements.size() == 5) {
            throw new IllegalStateException();
        }
        Entitlement x = new Entitlement();
        x.products = products;
        x.version = version;
        x.edition = edition;
        x.metric = metric;
        x.units = units;
        x.pool = pool;
        entitlements.add(x);
        return entitlements.size() - 1;
    }

    public int setRights(int entitlement, boolean down, boolean up, boolean second) {
        Entitlement x = of(entitlement);
        int before = 0;
        for (boolean right : new boolean[] {x.down, x.up, x.second}) {
            before += right ? 1 : 0;
        }
        x.down = down;
        x.up = up;
        x.second = second;
        return before;
    }

    public int setMinimum(int entitlement, int cores) {
        Entitlement x = of(entitlement);
        range(cores, 1, 16);
        if (x.metric != 'c') {
            throw new UnsupportedOperationException();
        }
        int before = x.minimum;
        x.minimum = cores;
        return before;
    }

    public int setPrice(int entitlement, int price) {
        Entitlement x = of(entitlement);
        range(price, 1, 99);
        int before = x.price;
        x.price = price;
        return before;
    }

    public int addUnits(int entitlement, int units) {
        Entitlement x = of(entitlement);
        range(units, 1, 99);
        if (x.units + units > 999) {
            throw new IllegalStateException();
        }
        x.units += units;
        return x.units;
    }

    public int units(int entitlement) {
        return of(entitlement).units;
    }

    public char why(int install, int entitlement) {
        return misfit(at(install), of(entitlement));
    }

    private static char misfit(Install x, Entitlement y) {
        boolean inSet = y.products / new int[] {1, 2, 4, 8}[x.product] % 2 == 1;
        if (!inSet) {
            return 'p';
        }
        if (y.pool >= 0 && x.pool != y.pool) {
            return 'o';
        }
        if (x.edition > y.edition) {
            return 'e';
        }
        if (x.edition < y.edition && !y.down) {
            return 'e';
        }
        if (x.version < y.version && !y.down) {
            return 'v';
        }
        if (x.version > y.version && !y.up) {
            return 'v';
        }
        return '-';
    }

    private List<Integer> present() {
        List<Integer> numbers = new ArrayList<>();
        for (int i = 0; i < installs.size(); i++) {
            if (installs.get(i).there) {
                numbers.add(i);
            }
        }
        return numbers;
    }

    private List<Integer> fits(int install) {
        Install x = at(install);
        List<Integer> numbers = new ArrayList<>();
        for (int e = 0; e < entitlements.size(); e++) {
            if (misfit(x, of(e)) == '-') {
                numbers.add(e);
            }
        }
        return numbers;
    }

    public int fitting(int install) {
        return fits(install).size();
    }

    public int firstFitting(int install) {
        List<Integer> numbers = fits(install);
        if (numbers.isEmpty()) {
            throw new NoSuchElementException();
        }
        return numbers.get(0);
    }

    private int need(Entitlement y, List<Install> its) {
        int need = 0;
        if (y.metric == 'c') {
            for (Install x : its) {
                need += x.cores > y.minimum ? x.cores : y.minimum;
            }
            return need;
        }
        for (int holder = 0; holder <= 9; holder++) {
            int greatest = 0;
            for (int product = 0; product <= 3; product++) {
                int number = 0;
                for (Install x : its) {
                    if (x.product == product && (y.metric == 'd' ? x.device : x.user) == holder) {
                        number++;
                    }
                }
                greatest = Math.max(greatest, number);
            }
            need += y.metric == 'u' && y.second ? greatest / 2 + greatest % 2 : greatest;
        }
        return need;
    }

    public int unitsForAll(int entitlement) {
        Entitlement y = of(entitlement);
        List<Install> its = new ArrayList<>();
        for (int install : present()) {
            if (misfit(at(install), y) == '-') {
                its.add(at(install));
            }
        }
        return need(y, its);
    }

    /** By install number the entitlement, -1 for none; absent installs have -1 too. */
    private List<int[]> assignments(boolean withNone) {
        List<int[]> all = new ArrayList<>();
        int[] start = new int[12];
        java.util.Arrays.fill(start, -1);
        all.add(start);
        for (int install : present()) {
            List<int[]> longer = new ArrayList<>();
            List<Integer> fitting = fits(install);
            for (int[] assignment : all) {
                if (withNone) {
                    longer.add(assignment);
                }
                for (int entitlement : fitting) {
                    int[] next = assignment.clone();
                    next[install] = entitlement;
                    longer.add(next);
                }
            }
            all = longer;
        }
        return all;
    }

    private int need(int entitlement, int[] assignment) {
        List<Install> its = new ArrayList<>();
        for (int i = 0; i < 12; i++) {
            if (assignment[i] == entitlement) {
                its.add(installs.get(i));
            }
        }
        return need(of(entitlement), its);
    }

    private int beyond(int entitlement, int[] assignment) {
        return Math.max(0, need(entitlement, assignment) - of(entitlement).units);
    }

    private int cost(int[] assignment) {
        int sum = 0;
        for (int e = 0; e < entitlements.size(); e++) {
            sum += of(e).price * beyond(e, assignment);
        }
        return sum;
    }

    private static int count(int[] assignment) {
        int count = 0;
        for (int entitlement : assignment) {
            count += entitlement >= 0 ? 1 : 0;
        }
        return count;
    }

    private static boolean comesFirst(int[] one, int[] other) {
        for (int i = 0; i < 12; i++) {
            int a = one[i] < 0 ? 5 : one[i];
            int b = other[i] < 0 ? 5 : other[i];
            if (a != b) {
                return a < b;
            }
        }
        return false;
    }

    private int[] cover() {
        int[] cover = null;
        for (int[] assignment : assignments(true)) {
            boolean allowed = true;
            for (int e = 0; e < entitlements.size(); e++) {
                allowed &= beyond(e, assignment) == 0;
            }
            if (allowed && (cover == null || count(assignment) > count(cover)
                    || count(assignment) == count(cover) && comesFirst(assignment, cover))) {
                cover = assignment;
            }
        }
        return cover;
    }

    private int[] leastPurchase() {
        int[] least = null;
        for (int[] assignment : assignments(false)) {
            if (least == null || cost(assignment) < cost(least)
                    || cost(assignment) == cost(least) && comesFirst(assignment, least)) {
                least = assignment;
            }
        }
        if (least == null) {
            throw new NoSuchElementException();
        }
        return least;
    }

    public int covered() {
        return count(cover());
    }

    public int coveredByTrying() {
        if (installs() > 4) {
            throw new UnsupportedOperationException();
        }
        return covered();
    }

    public int entitlementOf(int install) {
        at(install);
        int entitlement = cover()[install];
        if (entitlement < 0) {
            throw new NoSuchElementException();
        }
        return entitlement;
    }

    public char reason(int install) {
        at(install);
        if (cover()[install] >= 0) {
            return 'c';
        }
        return fits(install).isEmpty() ? 'n' : 'u';
    }

    public int used(int entitlement) {
        of(entitlement);
        return need(entitlement, cover());
    }

    public int spare(int entitlement) {
        return of(entitlement).units - used(entitlement);
    }

    public int purchase() {
        return cost(leastPurchase());
    }

    public int purchaseByTrying() {
        if (installs() > 4) {
            throw new UnsupportedOperationException();
        }
        return purchase();
    }

    public int toBuy(int entitlement) {
        of(entitlement);
        return beyond(entitlement, leastPurchase());
    }

    public int trueUp() {
        int[] least = leastPurchase();
        int sum = cost(least);
        int[] bought = new int[entitlements.size()];
        for (int e = 0; e < bought.length; e++) {
            bought[e] = beyond(e, least);
        }
        for (int e = 0; e < bought.length; e++) {
            of(e).units += bought[e];
        }
        spent += sum;
        return sum;
    }

    public long spent() {
        return spent;
    }

    public float coverage() {
        if (installs() == 0) {
            throw new NoSuchElementException();
        }
        return (float) covered() / (float) installs();
    }
}
