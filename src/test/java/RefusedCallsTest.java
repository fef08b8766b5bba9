/**
 * "A call that throws an exception changes nothing. If several exceptions apply, the one that is named first in
 * the throws clause is thrown."
 *
 * Each call that can be refused is made in each scene with every mixture of the last values that are allowed and
 * the first ones that are not. The exception is the one that is due, and none where none is due; after a refused
 * call, and after a look, all is as before, the saved states too; a call that is answered and undoable saves one
 * state, which undo brings back.
 */
public final class RefusedCallsTest {
    private static final int MIN = Integer.MIN_VALUE;
    private static final int MAX = Integer.MAX_VALUE;
    private static final int NONE = SeamBeats.NONE;
    private static final int MOST_SAVED = 6;
    private static final Class<?> BOUNDS = IndexOutOfBoundsException.class;
    private static final Class<?> ARGUMENT = IllegalArgumentException.class;
    private static final Class<?> STATE = IllegalStateException.class;
    private static final Class<?> NOTHING = null;
    private static final int[] ROOMS = {MIN, -1, 0, 2, 5, 6, MAX};

    private interface Act {
        long on(SeamBeats x, int[] of);
    }

    private interface Due {
        Class<?> of(SeamBeats x, int[] of);
    }

    private enum Kind {
        LOOK, UNDOABLE, OF_THE_BUFFER
    }

    public static void main(String[] args) {
        scenesAreAtTheLimits();
        roomsAndSeams();
        itemsAndTicks();
        buffer();
        putAll();
        undo();
        looks();
        prospects();
        Check.end();
    }

    private static boolean isIn(int number, int low, int high) {
        return number >= low && number <= high;
    }

    private static boolean isRoom(int number) {
        return isIn(number, 0, 5);
    }

    private static boolean isSeam(SeamBeats x, int number) {
        return isIn(number, 0, x.count(1) - 1);
    }

    private static Class<?> first(boolean isInBounds, boolean isArgument, boolean isPossible) {
        return !isInBounds ? BOUNDS : !isArgument ? ARGUMENT : !isPossible ? STATE : NOTHING;
    }

    /** Otherwise the grids would not meet the limits of which the document speaks. */
    private static void scenesAreAtTheLimits() {
        SeamBeats full = Scene.ALL_FULL.make();
        Check.due("seams", full.count(1), 8);
        Check.due("items in the queue", full.room(0, 4), 8);
        Check.due("room on the seam left", full.seamOf(0, 2) - full.seamOf(0, 4), 0);
        Check.due("beats to lose", full.room(2, 5), 99);
        Check.due("saved states", full.count(11), 6);
        Check.due("characters without an error", full.firstError(), 60);
        Check.due("characters", full.clearBuffer(), 60);
        SeamBeats left = Scene.ONE_PLACE_LEFT.make();
        Check.due("seams", left.count(1), 7);
        Check.due("items in the queue", left.room(0, 4), 7);
        Check.due("beats to lose", left.room(2, 5), 80);
        Check.due("characters", left.clearBuffer(), 59);
        Check.due("saved states", Scene.SOME_OF_ALL.make().count(11), 5);
        int[] ticks = {9900, 9901, 9998, 9999};
        for (int i = 0; i < ticks.length; i++) {
            Scene scene = Scene.values()[Scene.TICK_9900.ordinal() + i];
            Check.due("the tick of " + scene, scene.make().count(0), ticks[i]);
        }
    }

    private static void roomsAndSeams() {
        grid("beat", Kind.UNDOABLE, (x, a) -> x.beat(a[0], a[1], a[2]),
            (x, a) -> first(isRoom(a[0]), isIn(a[1], 1, 4) && isIn(a[2], 0, 3) && a[2] < a[1], true),
            new int[][] {ROOMS, {MIN, -1, 0, 1, 2, 3, 4, 5, MAX}, {MIN, -1, 0, 1, 2, 3, 4, MAX}});
        grid("wake", Kind.UNDOABLE, (x, a) -> x.wake(a[0], a[1] == 1), (x, a) -> first(isRoom(a[0]), true, true),
            new int[][] {ROOMS, {0, 1}});
        grid("lose", Kind.UNDOABLE, (x, a) -> x.lose(a[0], a[1]),
            (x, a) -> first(isRoom(a[0]), isIn(a[1], 1, 20), isRoom(a[0]) && x.room(a[0], 5) + a[1] <= 99),
            new int[][] {ROOMS, {MIN, -1, 0, 1, 2, 19, 20, 21, 99, 100, MAX}});
        grid("seam", Kind.UNDOABLE, (x, a) -> x.seam(a[0], a[1], a[2], a[3]),
            (x, a) -> first(isRoom(a[0]) && isRoom(a[1]), a[0] != a[1] && isIn(a[2], 1, 6) && isIn(a[3], 1, 3),
                x.count(1) < 8),
            new int[][] {{MIN, -1, 0, 5, 6, MAX}, {-1, 0, 5, 6, MAX}, {-1, 0, 1, 6, 7, MAX}, {MIN, 0, 1, 3, 4}});
        grid("route", Kind.UNDOABLE, (x, a) -> x.route(a[0], a[1]),
            (x, a) -> first(isRoom(a[0]) && (a[1] == NONE || isSeam(x, a[1])),
                a[1] == NONE || isSeam(x, a[1]) && x.seamOf(a[1], 0) == a[0], true),
            new int[][] {{MIN, -1, 0, 1, 2, 3, 4, 5, 6, MAX}, {MIN, -2, -1, 0, 1, 2, 3, 4, 5, 6, 7, 8, MAX}});
    }

    private static void itemsAndTicks() {
        grid("put", Kind.UNDOABLE, (x, a) -> x.put(a[0], a[1]),
            (x, a) -> first(isRoom(a[0]), isIn(a[1], 0, 99), isRoom(a[0]) && x.room(a[0], 4) < 8),
            new int[][] {ROOMS, {MIN, -1, 0, 1, 98, 99, 100, MAX}});
        grid("run", Kind.UNDOABLE, (x, a) -> x.run(a[0]),
            (x, a) -> first(true, isIn(a[0], 1, 99), x.count(0) + a[0] <= 9999),
            new int[][] {{MIN, -1, 0, 1, 2, 97, 98, 99, 100, 101, 9999, MAX}});
    }

    private static void buffer() {
        int[] codes = {MIN, -1, 0, 10, 32, 33, 34, 48, 125, 126, 127, 128, 255, 256 + 48, 65536 + 48, MAX};
        for (Scene scene : Scene.values()) {
            int length = scene.make().clearBuffer();
            grid(scene, "append", Kind.OF_THE_BUFFER, (x, a) -> x.append(a[0]),
                (x, a) -> first(true, isIn(a[0], 33, 126), length < 60), new int[][] {codes});
        }
    }

    private static void putAll() {
        // what stands in the buffer, and whether it is complete, and whether each queue of ALL_FULL has a place
        String[] texts = {"", "x", "0", "0=", "0=1", "1=0", "1=99*8", "1=99*5", "1=99*6", "1=0*", "1=0*2", "1=0;",
            "1=0;2=1", "1=0;0=1", "1=0;0=1*", "4=1*8;4=2", "5=1;4=1*8", "5=1;4=1*9", "6=1", "0=1*8;0=1*8;6=1", "4=01",
            "4=1;4=1;4=1;4=1;4=1;4=1;4=1;4=1", "4=1;4=1;4=1;4=1;4=1;4=1;4=1;4=1;4=1"};
        String part = "[0-5]=(0|[1-9][0-9]?)(\\*[2-8])?";
        for (Scene scene : Scene.values()) {
            for (String text : texts) {
                SeamBeats due = scene.make();
                int[] queued = new int[6];
                for (int room = 0; room < 6; room++) {
                    queued[room] = due.room(room, 4);
                }
                boolean isComplete = text.matches(part + "(;" + part + ")*");
                boolean hasPlaces = true;
                for (String one : isComplete ? text.split(";") : new String[0]) {
                    int star = one.indexOf('*');
                    int room = one.charAt(0) - '0';
                    queued[room] += star < 0 ? 1 : one.charAt(star + 1) - '0';
                    hasPlaces &= queued[room] <= 8;
                }
                due.clearBuffer();
                Check.type(due, text);
                SeamBeats x = scene.make();
                x.clearBuffer();
                Check.type(x, text);
                String call = scene + ": putAll() of " + text;
                compare(call, Kind.UNDOABLE, x, x::putAll, first(true, isComplete, hasPlaces), Scene.trail(due), text);
            }
        }
    }

    private static void undo() {
        for (Scene scene : Scene.values()) {
            SeamBeats x = scene.make();
            for (int left = x.count(11) - 1; left >= 0; left--) {
                Check.due(scene + ": undo()", x.undo(), left);
            }
            Check.due(scene + ": saved states", x.count(11), 0);
            Check.badState(x, scene + ": undo() of no saved state", x::undo);
            Check.badState(x, scene + ": undo() of no saved state, again", x::undo);
            x.wake(3, false);
            Check.due(scene + ": undo() of a new one", x.undo(), 0);
            Check.due(scene + ": room(3, 2)", x.room(3, 2), 1);
            Check.badState(x, scene + ": undo() after it", x::undo);
        }
    }

    private static void looks() {
        int[] seams = {MIN, -1, 0, 1, 2, 6, 7, 8, MAX};
        grid("room", Kind.LOOK, (x, a) -> x.room(a[0], a[1]), (x, a) -> first(isRoom(a[0]), isIn(a[1], 0, 10), true),
            new int[][] {ROOMS, {MIN, -1, 0, 1, 9, 10, 11, MAX}});
        grid("queue", Kind.LOOK, (x, a) -> x.queue(a[0], a[1], a[2]),
            (x, a) -> first(isRoom(a[0]), isIn(a[1], 0, 7) && isIn(a[2], 0, 1), true),
            new int[][] {{MIN, -1, 0, 5, 6, MAX}, {MIN, -1, 0, 7, 8, MAX}, {MIN, -1, 0, 1, 2, MAX}});
        grid("seamOf", Kind.LOOK, (x, a) -> x.seamOf(a[0], a[1]),
            (x, a) -> first(isSeam(x, a[0]), isIn(a[1], 0, 6), true),
            new int[][] {seams, {MIN, -1, 0, 5, 6, 7, MAX}});
        grid("onSeam", Kind.LOOK, (x, a) -> x.onSeam(a[0], a[1], a[2]),
            (x, a) -> first(isSeam(x, a[0]), isIn(a[1], 0, 5) && isIn(a[2], 0, 2), true),
            new int[][] {seams, {MIN, -1, 0, 5, 6, MAX}, {MIN, -1, 0, 2, 3, MAX}});
        grid("count", Kind.LOOK, (x, a) -> x.count(a[0]), (x, a) -> first(true, isIn(a[0], 0, 11), true),
            new int[][] {{MIN, -1, 0, 1, 5, 10, 11, 12, MAX}});
    }

    private static void prospects() {
        grid("ifRun", Kind.LOOK, (x, a) -> x.ifRun(a[0], a[1]),
            (x, a) -> first(true, isIn(a[0], 0, 300) && isIn(a[1], 0, 4), true),
            new int[][] {{MIN, -1, 0, 1, 99, 100, 299, 300, 301, MAX}, {MIN, -1, 0, 3, 4, 5, MAX}});
        grid("outIn", Kind.LOOK, (x, a) -> x.outIn(a[0]),
            (x, a) -> first(isIn(a[0], 0, x.count(2) - 1), true, true),
            new int[][] {{MIN, -1, 0, 1, 2, 4, 5, 6, 7, 11, 12, 13, 14, 999, MAX}});
        grid("bestPhase", Kind.LOOK, (x, a) -> x.bestPhase(a[0]), (x, a) -> first(isRoom(a[0]), true, true),
            new int[][] {ROOMS});
        grid("slowest", Kind.LOOK, (x, a) -> x.slowest(), (x, a) -> NOTHING, new int[][] {});
        grid("outShare", Kind.LOOK, (x, a) -> (long) (1000.0 * x.outShare()), (x, a) -> NOTHING, new int[][] {});
        grid("digest", Kind.LOOK, (x, a) -> x.digest(), (x, a) -> NOTHING, new int[][] {});
        grid("firstError", Kind.LOOK, (x, a) -> x.firstError(), (x, a) -> NOTHING, new int[][] {});
    }

    private static void grid(String name, Kind kind, Act act, Due due, int[][] values) {
        for (Scene scene : Scene.values()) {
            grid(scene, name, kind, act, due, values);
        }
    }

    /** Makes the call once for each mixture of the values, always on a new object. */
    private static void grid(Scene scene, String name, Kind kind, Act act, Due due, int[][] values) {
        String before = Scene.trail(scene.make());
        int[] at = new int[values.length];
        boolean isNext = true;
        while (isNext) {
            int[] of = new int[values.length];
            StringBuilder call = new StringBuilder(scene + ": " + name + "(");
            for (int i = 0; i < of.length; i++) {
                of[i] = values[i][at[i]];
                call.append(i == 0 ? "" : ", ").append(of[i]);
            }
            SeamBeats x = scene.make();
            Class<?> thrown = due.of(x, of);
            compare(call.append(")").toString(), kind, x, () -> act.on(x, of), thrown, before, null);
            isNext = step(at, values);
        }
    }

    /** Goes on to the next mixture; false if there is none. */
    private static boolean step(int[] at, int[][] values) {
        for (int i = at.length - 1; i >= 0; i--) {
            at[i]++;
            if (at[i] < values[i].length) {
                return true;
            }
            at[i] = 0;
        }
        return false;
    }

    /** Makes the call, and compares what it throws and leaves. The text stands in the buffer, if it is not null. */
    private static void compare(String call, Kind kind, SeamBeats x, Check.Call made, Class<?> thrown, String before,
            String text) {
        int saved = x.count(11);
        String outcome = Check.outcome(made);
        if (thrown != null) {
            Check.dueTrue(call + " answered " + outcome + ", due is " + thrown.getName(),
                outcome.equals(thrown.getName()));
            Check.dueTrue(call + " was refused, but has changed something", Scene.trail(x).equals(before));
            return;
        }
        Check.dueTrue(call + " threw " + outcome, outcome.matches("-?[0-9]+"));
        if (kind == Kind.LOOK) {
            Check.dueTrue(call + " is a look, but has changed something", Scene.trail(x).equals(before));
        } else if (kind == Kind.OF_THE_BUFFER) {
            Check.due("saved states after " + call, x.count(11), saved);
        } else {
            Check.due("saved states after " + call, x.count(11), Math.min(MOST_SAVED, saved + 1));
            Check.due("undo() of " + call, x.undo(), Math.min(MOST_SAVED - 1, saved));
            if (text != null) {
                Check.type(x, text);
            }
            if (saved < MOST_SAVED) {
                Check.dueTrue(call + " undone leaves something changed", Scene.trail(x).equals(before));
            }
        }
    }
}
