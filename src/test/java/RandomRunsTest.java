import java.util.concurrent.Callable;

/** Runs of 512 calls each, the same ones every time, on an object and on the model. */
public final class RandomRunsTest {
    private static final int RUNS = 1500;
    private static final int CALLS = 512;
    private static final int[] ODD = {-1, 4, 16, 4096, Integer.MAX_VALUE, Integer.MIN_VALUE};

    private long seed;
    private final ShippedLog log = new ShippedLog();
    private final Model model = new Model();
    private final int oddPercent;
    private final int crashPercent;
    private int a;
    private int b;
    private int c;

    private RandomRunsTest(int run) {
        seed = run * 7919L + 17;
        oddPercent = run % 3;
        crashPercent = run % 5;
    }

    public static void main(String[] args) {
        Check check = new Check();
        for (int run = 0; run < RUNS; run++) {
            RandomRunsTest calls = new RandomRunsTest(run);
            boolean same = true;
            for (int call = 0; call < CALLS && same; call++) {
                same = calls.oneCall(check, "run " + run + ", call " + call + ": ");
            }
        }
        check.end();
    }

    private int below(int bound) {
        seed = seed * 6364136223846793005L + 1442695040888963407L;
        return (int) Math.floorMod(seed >>> 33, (long) bound);
    }

    private int argument(int bound) {
        return below(100) < oddPercent ? ODD[below(ODD.length)] : below(bound);
    }

    private boolean oneCall(Check check, String place) {
        a = argument(4);
        b = argument(4);
        c = 0;
        String[] names = {"put", "put", "commit", "send", "send", "deliver", "deliver", "deliver", "follow",
            "rewind", "up", "promote", "standby", "apply", "drop", "get", "byteAt", "node", "node", "link"};
        String name = below(100) < crashPercent ? "crash" : names[below(names.length)];
        chooseArguments(name);
        String got = answer(() -> onLog(name));
        String due = answer(() -> onModel(name));
        if (!got.equals(due)) {
            check.report(place + name + "(" + a + ", " + b + ", " + c + ") answered " + got + ", the model " + due);
            return false;
        }
        return true;
    }

    /** Pairs that have a link are chosen more often: others would be refused most of the time. */
    private void chooseArguments(String name) {
        if (name.equals("send") || name.equals("deliver") || name.equals("drop") || name.equals("link")) {
            chooseLink(name.equals("send"));
            c = argument(2);
        } else if (name.equals("standby")) {
            chooseLink(true);
            b = below(4) == 0 ? ShippedLog.NONE : b;
        } else if (name.equals("put") || name.equals("get")) {
            b = argument(16);
            c = below(3) == 0 ? below(256) : below(Integer.MAX_VALUE) * 2 + below(2);
        } else if (name.equals("crash")) {
            b = argument(70);
        } else if (name.equals("apply")) {
            b = argument(6);
        } else if (name.equals("byteAt")) {
            b = below(8) == 0 ? argument(4096) : argument(600);
            c = argument(2);
        } else if (name.equals("node")) {
            b = argument(9);
        }
    }

    private void chooseLink(boolean primaryFirst) {
        for (int tries = 0; tries < 6 && below(20) != 0; tries++) {
            int replica = below(4);
            int primary = model.node(replica, 5);
            if (primary != ShippedLog.NONE) {
                boolean back = !primaryFirst && below(2) == 0;
                a = back ? replica : primary;
                b = back ? primary : replica;
                return;
            }
        }
    }

    private static String answer(Callable<?> call) {
        try {
            return String.valueOf(call.call());
        } catch (Exception e) {
            return e.getClass().getSimpleName();
        }
    }

    private Object onLog(String name) {
        switch (name) {
            case "up": return log.up(a);
            case "crash": return log.crash(a, b);
            case "promote": return log.promote(a);
            case "follow": return Check.following(log, a, b);
            case "rewind": return log.rewind(a, b);
            case "put": return log.put(a, b, c);
            case "commit": return log.commit(a);
            case "standby": return log.standby(a, b);
            case "send": return log.send(a, b);
            case "deliver": return log.deliver(a, b);
            case "drop": return log.drop(a, b);
            case "apply": return log.apply(a, b);
            case "get": return log.get(a, b);
            case "byteAt": return log.byteAt(a, b, c);
            case "node": return log.node(a, b);
            default: return log.link(a, b, c);
        }
    }

    private Object onModel(String name) {
        switch (name) {
            case "up": return model.up(a);
            case "crash": return model.crash(a, b);
            case "promote": return model.promote(a);
            case "follow":
                model.follow(a, b);
                return "nothing";
            case "rewind": return model.rewind(a, b);
            case "put": return model.put(a, b, c);
            case "commit": return model.commit(a);
            case "standby": return model.standby(a, b);
            case "send": return model.send(a, b);
            case "deliver": return model.deliver(a, b);
            case "drop": return model.drop(a, b);
            case "apply": return model.apply(a, b);
            case "get": return model.get(a, b);
            case "byteAt": return model.byteAt(a, b, c);
            case "node": return model.node(a, b);
            default: return model.link(a, b, c);
        }
    }
}
