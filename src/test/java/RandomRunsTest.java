import java.lang.reflect.InvocationTargetException;
import java.lang.reflect.Method;
import java.lang.reflect.Modifier;
import java.util.Arrays;

/** Long runs of drawn calls, each answered by the program and by the model; the draws are the same each time. */
public final class RandomRunsTest {
    private static final int RUNS = 600;
    private static final int CALLS = 120;
    private static final int ALL_CALLS = 512;

    private static final Checks checks = new Checks();
    private static long seed = 20261119;

    // Narrow runs put all on few devices, users and values, so that installs meet and prices are equal.
    private static boolean narrow;
    // In open runs nearly every entitlement fits every install, so that there is much to choose from.
    private static boolean open;
    // Small runs keep to installs so few that all assignments may be tried.
    private static boolean small;

    public static void main(String[] args) throws Exception {
        Method[] calls = callsOf();
        for (int run = 0; run < RUNS; run++) {
            narrow = run % 2 == 0;
            open = run % 3 != 0;
            small = run % 5 < 2;
            Entitled desk = new Entitled();
            Model model = new Model();
            int length = run % 50 == 0 ? ALL_CALLS : CALLS;
            for (int i = 0; i < length; i++) {
                Method call = drawnCall(calls, i, model.installs());
                Object[] values = valuesFor(call.getName());
                Method twin = Model.class.getMethod(call.getName(), call.getParameterTypes());
                checks.due("run " + run + ", call " + i + ": " + call.getName() + Arrays.toString(values),
                        answer(call, desk, values), answer(twin, model, values));
            }
        }
        checks.end();
    }

    /** Early calls mostly make installs and entitlements; calls that use them up are drawn less often than others. */
    private static Method drawnCall(Method[] calls, int at, int installsThere) {
        Method call = calls[draw(calls.length)];
        if (at < 24 && draw(3) > 0) {
            call = named(calls, draw(2) == 0 ? "install" : "entitle");
        }
        switch (call.getName()) {
            case "install":
                return small && installsThere >= 4 ? named(calls, "purchaseByTrying") : call;
            case "retire": case "trueUp":
                return draw(6) > 0 ? named(calls, "covered") : call;
            case "addUnits":
                return draw(6) > 0 ? named(calls, "toBuy") : call;
            default:
                return call;
        }
    }

    private static Method[] callsOf() {
        return Arrays.stream(Entitled.class.getDeclaredMethods())
                .filter(method -> Modifier.isPublic(method.getModifiers()))
                .sorted((one, other) -> one.getName().compareTo(other.getName()))
                .toArray(Method[]::new);
    }

    private static Method named(Method[] calls, String name) {
        for (Method call : calls) {
            if (call.getName().equals(name)) {
                return call;
            }
        }
        throw new IllegalArgumentException(name);
    }

    private static Object answer(Method call, Object desk, Object[] values) throws IllegalAccessException {
        try {
            return call.invoke(desk, values);
        } catch (InvocationTargetException e) {
            return e.getCause().getClass();
        }
    }

    private static int draw(int below) {
        seed = seed * 6364136223846793005L + 1442695040888963407L;
        return (int) ((seed >>> 33) % below);
    }

    /** A value from low to high, now and then one just outside. */
    private static int from(int low, int high) {
        int odd = draw(60);
        return odd == 0 ? low - 1 : odd == 1 ? high + 1 : low + draw(high - low + 1);
    }

    private static Object[] valuesFor(String name) {
        int wide = narrow ? 1 : 9;
        switch (name) {
            case "install":
                return new Object[] {from(0, narrow ? 1 : 3), version(), edition(), from(0, wide),
                    from(0, wide), from(1, narrow ? 4 : 16), from(0, narrow ? 1 : 2)};
            case "entitle":
                char metric = "duce".charAt(draw(30) == 0 ? 3 : draw(3));
                int products = open || draw(2) == 0 ? 15 : from(1, 15);
                return new Object[] {products, version(), edition(), metric,
                    draw(10) == 0 ? from(0, 99) : from(0, metric == 'c' ? 9 : 3),
                    open || draw(2) == 0 ? -1 : from(-1, 2)};
            case "moveTo":
                return new Object[] {install(), from(0, wide), from(0, wide)};
            case "setVersion":
                return new Object[] {install(), version(), edition()};
            case "setPool":
                return new Object[] {install(), from(0, narrow ? 1 : 2)};
            case "setRights":
                return new Object[] {entitlement(), right(), right(), draw(2) == 0};
            case "setMinimum":
                return new Object[] {entitlement(), from(1, draw(3) == 0 ? 16 : 4)};
            case "setPrice":
                return new Object[] {entitlement(), draw(4) == 0 ? from(1, 99) : 10 * from(1, 3)};
            case "addUnits":
                return new Object[] {entitlement(), draw(8) == 0 ? from(1, 99) : from(1, 2)};
            case "why":
                return new Object[] {install(), entitlement()};
            case "retire": case "isThere": case "fitting": case "firstFitting": case "entitlementOf": case "reason":
                return new Object[] {install()};
            case "units": case "unitsForAll": case "used": case "spare": case "toBuy":
                return new Object[] {entitlement()};
            default:
                return new Object[0];
        }
    }

    private static int version() {
        return narrow || open ? from(4, 5) : draw(2) == 0 ? 5 : from(1, 9);
    }

    private static int edition() {
        return narrow || open ? 2 : from(1, 3);
    }

    private static boolean right() {
        return draw(open ? 20 : 4) > 0;
    }

    private static int install() {
        return from(0, draw(3) == 0 ? 11 : 6);
    }

    private static int entitlement() {
        return from(0, 4);
    }
}
