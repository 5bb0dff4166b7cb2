/** The desks that tests begin with. */
final class Desks {
    interface Maker {
        Entitled make();
    }

    private Desks() {
    }

    /** An install of version 5 and edition 2, with one core, in the pool 0. */
    static int put(Entitled desk, int product, int device, int user) {
        return desk.install(product, 5, 2, device, user, 1, 0);
    }

    /** An entitlement of version 5 and edition 2, for all pools. */
    static int add(Entitled desk, int products, char metric, int units) {
        return desk.entitle(products, 5, 2, metric, units, -1);
    }

    /** The installs 0, 2 and 3 are there, 1 is retired; the entitlements 0, 1 and 2 fit some of them each. */
    static Entitled some() {
        Entitled desk = new Entitled();
        desk.install(0, 5, 2, 1, 1, 4, 0);
        desk.install(0, 5, 2, 2, 2, 2, 0);
        desk.install(0, 4, 2, 3, 3, 8, 1);
        desk.install(1, 5, 1, 3, 4, 1, 0);
        desk.entitle(3, 5, 2, 'd', 1, -1);
        desk.entitle(15, 5, 2, 'u', 1, -1);
        desk.entitle(1, 4, 2, 'c', 3, 0);
        desk.setRights(1, true, false, true);
        desk.setRights(2, false, true, false);
        desk.setPrice(1, 7);
        desk.setPrice(2, 2);
        desk.setMinimum(2, 3);
        desk.retire(1);
        return desk;
    }

    /** Twelve are made, of which 6 to 11 are there, and five entitlements are added. */
    static Entitled full() {
        Entitled desk = new Entitled();
        for (int i = 0; i < 12; i++) {
            desk.install(i % 2, 5, 2, i % 5, i % 4, 1 + i, i % 3);
            if (i >= 6) {
                continue;
            }
            desk.retire(i);
        }
        addFive(desk);
        return desk;
    }

    /** Six are made and there, and five entitlements are added. */
    static Entitled sixThere() {
        Entitled desk = new Entitled();
        for (int i = 0; i < 6; i++) {
            desk.install(i % 2, 5, 2, i % 5, i % 4, 1 + i, i % 3);
        }
        addFive(desk);
        return desk;
    }

    /** Twelve are made, and only the last three are there. */
    static Entitled twelveMade() {
        Entitled desk = full();
        for (int i = 6; i < 9; i++) {
            desk.retire(i);
        }
        return desk;
    }

    /** Twelve are made, and none is there. */
    static Entitled allRetired() {
        Entitled desk = full();
        for (int i = 6; i < 12; i++) {
            desk.retire(i);
        }
        return desk;
    }

    /** Some entitlement fits the install 0, none fits the install 1. */
    static Entitled misfit() {
        Entitled desk = new Entitled();
        put(desk, 0, 0, 0);
        put(desk, 1, 1, 1);
        add(desk, 1, 'd', 0);
        add(desk, 13, 'c', 9);
        return desk;
    }

    /** Five installs are there, and no entitlement fits the last of them. */
    static Entitled misfitOfFive() {
        Entitled desk = new Entitled();
        for (int i = 0; i < 5; i++) {
            put(desk, i < 4 ? 0 : 1, i, i);
        }
        add(desk, 1, 'd', 2);
        return desk;
    }

    private static void addFive(Entitled desk) {
        desk.entitle(1, 5, 2, 'd', 1, -1);
        desk.entitle(3, 5, 2, 'u', 1, -1);
        desk.entitle(2, 5, 2, 'c', 9, 1);
        desk.entitle(3, 5, 2, 'c', 0, 2);
        desk.entitle(2, 5, 2, 'd', 0, -1);
        desk.setRights(1, false, false, true);
        desk.setPrice(3, 99);
        desk.setPrice(4, 1);
        desk.setMinimum(3, 16);
    }
}
