import java.util.Random;

/** Long runs of calls, by fixed seeds: each answer and each exception is compared with the model's. */
public final class RandomRunsTest {
    private static final int RUNS = 700;
    private static final int CALLS = 512;
    private static final int[] WEIRD = {-1, -2, 6, 7, 8, 99, 100, 300, 301, 999, Integer.MIN_VALUE, Integer.MAX_VALUE};
    private static final String SIGNS = "0123456789=*;";

    private final Random random;
    private final SeamBeats x = new SeamBeats();
    private final Model model = new Model();
    private final int run;
    private final int weirdIn;
    private final int longestRun;

    private RandomRunsTest(int run) {
        this.run = run;
        random = new Random(run);
        weirdIn = run % 3 == 0 ? 8 : run % 3 == 1 ? 40 : 1000000;
        longestRun = run % 5 == 0 ? 99 : run % 5 == 1 ? 20 : 3;
    }

    public static void main(String[] args) {
        for (int run = 0; run < RUNS; run++) {
            RandomRunsTest test = new RandomRunsTest(run);
            for (int call = 0; call < CALLS; call++) {
                call += test.next() - 1;
            }
            if (run % 10 == 0) {
                Check.due("run " + run + ": digest()", test.x.digest(), test.model.digest());
            }
        }
        Check.end();
    }

    /** Mostly one of the numbers from low to high, now and then another. */
    private int some(int low, int high) {
        if (random.nextInt(weirdIn) == 0) {
            return random.nextBoolean() ? WEIRD[random.nextInt(WEIRD.length)] : random.nextBoolean() ? low - 1 : high + 1;
        }
        return low + random.nextInt(high - low + 1);
    }

    private void same(String name, Check.Call got, Check.Call want, int... of) {
        String is = Check.outcome(got);
        String due = Check.outcome(want);
        StringBuilder call = new StringBuilder("run " + run + ": " + name + "(");
        for (int i = 0; i < of.length; i++) {
            call.append(i == 0 ? "" : ", ").append(of[i]);
        }
        Check.dueTrue(call + ") answered " + is + ", due is " + due, is.equals(due));
    }

    /** Makes some calls, and returns how many. */
    private int next() {
        int kind = random.nextInt(100);
        if (kind < 45) {
            return change(kind);
        }
        if (kind < 57) {
            return text(kind);
        }
        if (kind < 62) {
            int times = random.nextInt(3) == 0 ? 1 + random.nextInt(6) : 1;
            for (int i = 0; i < times; i++) {
                same("undo", x::undo, model::undo);
            }
            return times;
        }
        return kind < 85 ? look(kind) : prospect(kind);
    }

    private int change(int kind) {
        int a = some(0, 5);
        int b = some(0, 5);
        if (kind < 4) {
            int period = some(1, 4);
            int phase = some(0, period > 0 && period < 5 ? period - 1 : 3);
            same("beat", () -> x.beat(a, period, phase), () -> model.beat(a, period, phase), a, period, phase);
        } else if (kind < 7) {
            boolean awake = random.nextInt(4) > 0;
            same("wake", () -> x.wake(a, awake), () -> model.wake(a, awake), a, awake ? 1 : 0);
        } else if (kind < 10) {
            int beats = random.nextInt(5) == 0 ? some(1, 20) : some(1, 2);
            same("lose", () -> x.lose(a, beats), () -> model.lose(a, beats), a, beats);
        } else if (kind < 16) {
            int size = some(1, 6);
            int crossing = some(1, 3);
            same("seam", () -> x.seam(a, b, size, crossing), () -> model.seam(a, b, size, crossing), a, b, size, crossing);
        } else if (kind < 19) {
            int seam = some(-1, 7);
            same("route", () -> x.route(a, seam), () -> model.route(a, seam), a, seam);
        } else if (kind < 33) {
            int value = some(0, 99);
            same("put", () -> x.put(a, value), () -> model.put(a, value), a, value);
        } else {
            int ticks = some(1, longestRun);
            same("run", () -> x.run(ticks), () -> model.run(ticks), ticks);
        }
        return 1;
    }

    private int text(int kind) {
        if (kind < 46) {
            same("clearBuffer", x::clearBuffer, model::clearBuffer);
            return 1;
        }
        if (kind < 49) {
            int code = random.nextInt(3) == 0 ? some(33, 126) : SIGNS.charAt(random.nextInt(SIGNS.length()));
            same("append", () -> x.append(code), () -> model.append(code), code);
            same("firstError", x::firstError, model::firstError);
            return 2;
        }
        String items = someItems();
        for (int i = 0; i < items.length(); i++) {
            int code = items.charAt(i);
            same("append", () -> x.append(code), () -> model.append(code), code);
        }
        same("firstError", x::firstError, model::firstError);
        same("putAll", x::putAll, model::putAll);
        if (random.nextInt(3) > 0) {
            same("clearBuffer", x::clearBuffer, model::clearBuffer);
        }
        return items.length() + 3;
    }

    private String someItems() {
        StringBuilder items = new StringBuilder();
        int parts = 1 + random.nextInt(4);
        for (int part = 0; part < parts; part++) {
            items.append(part == 0 ? "" : ";").append(some(0, 5)).append('=').append(random.nextInt(100));
            if (random.nextInt(3) == 0) {
                items.append('*').append(some(2, random.nextBoolean() ? 3 : 8));
            }
        }
        if (random.nextInt(6) == 0) {
            items.setCharAt(random.nextInt(items.length()), SIGNS.charAt(random.nextInt(SIGNS.length())));
        }
        return items.toString();
    }

    private int look(int kind) {
        int a = some(0, 5);
        int seam = some(0, 7);
        if (kind < 67) {
            int what = some(0, 10);
            same("room", () -> x.room(a, what), () -> model.room(a, what), a, what);
        } else if (kind < 71) {
            int place = some(0, 7);
            int what = some(0, 1);
            same("queue", () -> x.queue(a, place, what), () -> model.queue(a, place, what), a, place, what);
        } else if (kind < 76) {
            int what = some(0, 6);
            same("seamOf", () -> x.seamOf(seam, what), () -> model.seamOf(seam, what), seam, what);
        } else if (kind < 81) {
            int place = some(0, 5);
            int what = some(0, 2);
            same("onSeam", () -> x.onSeam(seam, place, what), () -> model.onSeam(seam, place, what), seam, place, what);
        } else {
            int what = some(0, 11);
            same("count", () -> x.count(what), () -> model.count(what), what);
        }
        return 1;
    }

    private int prospect(int kind) {
        if (kind < 88) {
            int ticks = random.nextInt(4) == 0 ? some(0, 300) : some(0, 20);
            int what = some(0, 4);
            same("ifRun", () -> x.ifRun(ticks, what), () -> model.ifRun(ticks, what), ticks, what);
        } else if (kind < 91) {
            int item = some(0, Math.max(0, model.count(2) - 1));
            same("outIn", () -> x.outIn(item), () -> model.outIn(item), item);
        } else if (kind < 94) {
            int room = some(0, 5);
            same("bestPhase", () -> x.bestPhase(room), () -> model.bestPhase(room), room);
        } else if (kind < 96) {
            same("slowest", x::slowest, model::slowest);
        } else if (kind < 98) {
            same("outShare", () -> Double.doubleToLongBits(x.outShare()), () -> Double.doubleToLongBits(model.outShare()));
        } else {
            same("digest", x::digest, model::digest);
        }
        return 1;
    }
}
