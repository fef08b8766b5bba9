/** Promises 1 to 6: a new object, beat, wake, lose, seam, route. */
public final class RoomsAndSeamsTest {
    private static final int NONE = SeamBeats.NONE;

    public static void main(String[] args) {
        newObject();
        objectsAreApart();
        beat();
        beatRefuses();
        wake();
        lose();
        loseRefuses();
        seam();
        seamRefuses();
        seamAfterUndoIsNew();
        route();
        routeRefuses();
        Check.end();
    }

    private static void newObject() {
        SeamBeats x = new SeamBeats();
        Check.due("NONE", SeamBeats.NONE, -1);
        long[] counts = {0, 0, 0, 0, 0, 0, 0, NONE, 0, 0, 63, 0};
        for (int what = 0; what < counts.length; what++) {
            Check.due("new: count(" + what + ")", x.count(what), counts[what]);
        }
        long[] properties = {1, 0, 1, NONE, 0, 0, 0, 0, 0, NONE, NONE};
        for (int room = 0; room < 6; room++) {
            for (int what = 0; what < properties.length; what++) {
                Check.due("new: room(" + room + ", " + what + ")", x.room(room, what), properties[what]);
            }
            Check.due("new: queue(" + room + ", 0, 0)", x.queue(room, 0, 0), NONE);
        }
        Check.outOfBounds(x, "new: seamOf(0, 0)", () -> x.seamOf(0, 0));
        Check.badState(x, "new: undo()", x::undo);
        Check.due("new: firstError()", x.firstError(), 0);
        Check.due("new: clearBuffer()", x.clearBuffer(), 0);
        Check.due("new: digest()", x.digest(), new SeamBeats().digest());
    }

    private static void objectsAreApart() {
        SeamBeats x = new SeamBeats();
        SeamBeats y = new SeamBeats();
        long before = y.digest();
        x.seam(0, 1, 2, 2);
        x.put(0, 5);
        x.run(3);
        x.append('0');
        Check.due("another object's digest()", y.digest(), before);
    }

    private static void beat() {
        SeamBeats x = new SeamBeats();
        Check.due("beat(0, 4, 3)", x.beat(0, 4, 3), 10);
        Check.due("beat(0, 4, 0)", x.beat(0, 4, 0), 43);
        Check.due("beat(5, 2, 1)", x.beat(5, 2, 1), 10);
        Check.due("beat(5, 1, 0)", x.beat(5, 1, 0), 21);
        Check.due("beat(0, 3, 2)", x.beat(0, 3, 2), 40);
        Check.due("room(0, 0)", x.room(0, 0), 3);
        Check.due("room(0, 1)", x.room(0, 1), 2);
        Check.due("room(1, 0)", x.room(1, 0), 1);
        Check.due("count(11)", x.count(11), 5);
        Check.due("count(10) at the tick 0", x.count(10), 62);
        x.run(2);
        Check.due("count(10) at the tick 2", x.count(10), 63);
        x.run(1);
        Check.due("count(10) at the tick 3", x.count(10), 62);
        Check.due("undo() of run", x.undo(), 5);
        Check.due("undo() of run", x.undo(), 4);
        Check.due("undo() of beat", x.undo(), 3);
        Check.due("room(0, 0) after undo", x.room(0, 0), 4);
        Check.due("room(0, 1) after undo", x.room(0, 1), 0);
        Check.due("beat(2, 1, 0), which changes nothing", x.beat(2, 1, 0), 10);
        Check.due("count(11) after it", x.count(11), 4);
    }

    private static void beatRefuses() {
        SeamBeats x = new SeamBeats();
        int[] noRooms = {-1, 6, 7, Integer.MIN_VALUE, Integer.MAX_VALUE};
        for (int room : noRooms) {
            Check.outOfBounds(x, "beat(" + room + ", 1, 0)", () -> x.beat(room, 1, 0));
            Check.outOfBounds(x, "beat(" + room + ", 0, 9)", () -> x.beat(room, 0, 9));
        }
        int[][] bad = {{0, 0}, {-1, 0}, {5, 0}, {4, 4}, {4, -1}, {1, 1}, {2, 2}, {3, 3}, {5, 4},
            {Integer.MAX_VALUE, 0}, {Integer.MIN_VALUE, 0}, {4, Integer.MIN_VALUE}, {4, Integer.MAX_VALUE}};
        for (int[] pair : bad) {
            Check.badArgument(x, "beat(0, " + pair[0] + ", " + pair[1] + ")", () -> x.beat(0, pair[0], pair[1]));
        }
        for (int period = 1; period <= 4; period++) {
            for (int phase = 0; phase < period; phase++) {
                x.beat(3, period, phase);
                Check.due("room(3, 0)", x.room(3, 0), period);
                Check.due("room(3, 1)", x.room(3, 1), phase);
            }
        }
    }

    private static void wake() {
        SeamBeats x = new SeamBeats();
        Check.due("wake(2, false)", x.wake(2, false), 1);
        Check.due("room(2, 2)", x.room(2, 2), 0);
        Check.due("wake(2, false) again", x.wake(2, false), 0);
        Check.due("count(11)", x.count(11), 2);
        Check.due("count(10)", x.count(10), 63 - 4);
        x.put(2, 7);
        x.lose(2, 1);
        x.run(5);
        Check.due("room(2, 4) asleep", x.room(2, 4), 1);
        Check.due("room(2, 5) asleep", x.room(2, 5), 1);
        Check.due("wake(2, true)", x.wake(2, true), 0);
        x.run(2);
        Check.due("room(2, 8) awake", x.room(2, 8), 1);
        Check.due("undo()", x.undo(), 5);
        Check.due("undo()", x.undo(), 4);
        Check.due("room(2, 2) after undo", x.room(2, 2), 0);
        int[] noRooms = {-1, 6, Integer.MIN_VALUE, Integer.MAX_VALUE};
        for (int room : noRooms) {
            Check.outOfBounds(x, "wake(" + room + ", true)", () -> x.wake(room, true));
            Check.outOfBounds(x, "wake(" + room + ", false)", () -> x.wake(room, false));
        }
    }

    private static void lose() {
        SeamBeats x = new SeamBeats();
        x.put(1, 50);
        x.put(1, 51);
        x.beat(1, 2, 1);
        Check.due("lose(1, 1)", x.lose(1, 1), 1);
        Check.due("lose(1, 1) again", x.lose(1, 1), 2);
        x.run(1);
        Check.due("room(1, 5): no beat in the tick 0", x.room(1, 5), 2);
        Check.due("count(10): the beat is lost", x.count(10), 63 - 2);
        x.run(1);
        Check.due("room(1, 5) after one lost", x.room(1, 5), 1);
        Check.due("room(1, 6) after one lost", x.room(1, 6), 1);
        x.run(2);
        Check.due("room(1, 6) after two lost", x.room(1, 6), 2);
        Check.due("room(1, 8) after two lost", x.room(1, 8), 0);
        Check.due("count(8)", x.count(8), 2);
        x.run(2);
        Check.due("room(1, 8)", x.room(1, 8), 1);
        Check.due("room(1, 6)", x.room(1, 6), 2);
    }

    private static void loseRefuses() {
        SeamBeats x = new SeamBeats();
        for (int i = 1; i <= 4; i++) {
            Check.due("lose(0, 20)", x.lose(0, 20), 20 * i);
        }
        Check.badState(x, "lose(0, 20) up to 100", () -> x.lose(0, 20));
        Check.due("lose(0, 19)", x.lose(0, 19), 99);
        Check.badState(x, "lose(0, 1) up to 100", () -> x.lose(0, 1));
        Check.due("undo()", x.undo(), 4);
        Check.due("room(0, 5) after undo", x.room(0, 5), 80);
        int[] bad = {0, -1, 21, 99, Integer.MIN_VALUE, Integer.MAX_VALUE};
        for (int beats : bad) {
            Check.badArgument(x, "lose(0, " + beats + ")", () -> x.lose(0, beats));
        }
        int[] noRooms = {-1, 6, Integer.MIN_VALUE, Integer.MAX_VALUE};
        for (int room : noRooms) {
            Check.outOfBounds(x, "lose(" + room + ", 1)", () -> x.lose(room, 1));
            Check.outOfBounds(x, "lose(" + room + ", 0)", () -> x.lose(room, 0));
        }
        x.lose(0, 19);
        Check.badArgument(x, "lose(0, 21) with 99", () -> x.lose(0, 21));
    }

    private static void seam() {
        SeamBeats x = new SeamBeats();
        Check.due("seam(0, 5, 6, 3)", x.seam(0, 5, 6, 3), 0);
        Check.due("room(0, 3): its route", x.room(0, 3), 0);
        Check.due("room(5, 3): no route", x.room(5, 3), NONE);
        Check.due("seam(0, 1, 1, 1)", x.seam(0, 1, 1, 1), 1);
        Check.due("room(0, 3): still the first", x.room(0, 3), 0);
        Check.due("seam(0, 1, 1, 1): the same once more", x.seam(0, 1, 1, 1), 2);
        Check.due("seam(5, 0, 2, 2)", x.seam(5, 0, 2, 2), 3);
        Check.due("room(5, 3)", x.room(5, 3), 3);
        Check.due("count(1)", x.count(1), 4);
        Check.due("count(11)", x.count(11), 4);
        long[] want = {0, 5, 6, 3, 0, 0, 0};
        for (int what = 0; what < want.length; what++) {
            Check.due("seamOf(0, " + what + ")", x.seamOf(0, what), want[what]);
        }
        Check.due("undo()", x.undo(), 3);
        Check.due("count(1) after undo", x.count(1), 3);
        Check.due("room(5, 3) after undo", x.room(5, 3), NONE);
        x.route(0, NONE);
        Check.due("seam(0, 2, 1, 1)", x.seam(0, 2, 1, 1), 3);
        Check.due("room(0, 3): the new one is its route", x.room(0, 3), 3);
    }

    private static void seamRefuses() {
        SeamBeats x = new SeamBeats();
        int[] noRooms = {-1, 6, Integer.MIN_VALUE, Integer.MAX_VALUE};
        for (int room : noRooms) {
            Check.outOfBounds(x, "seam(" + room + ", 0, 1, 1)", () -> x.seam(room, 0, 1, 1));
            Check.outOfBounds(x, "seam(0, " + room + ", 1, 1)", () -> x.seam(0, room, 1, 1));
            Check.outOfBounds(x, "seam(" + room + ", same, 0, 0)", () -> x.seam(room, room, 0, 0));
        }
        int[][] bad = {{1, 1, 1, 1}, {0, 1, 0, 1}, {0, 1, 7, 1}, {0, 1, -1, 1}, {0, 1, 1, 0}, {0, 1, 1, 4},
            {0, 1, 1, -1}, {0, 1, Integer.MAX_VALUE, 1}, {0, 1, 1, Integer.MIN_VALUE}};
        for (int[] of : bad) {
            Check.badArgument(x, "seam(" + of[0] + ", " + of[1] + ", " + of[2] + ", " + of[3] + ")",
                () -> x.seam(of[0], of[1], of[2], of[3]));
        }
        for (int i = 0; i < 8; i++) {
            Check.due("seam " + i, x.seam(i % 6, (i + 1) % 6, 1 + i % 6, 1 + i % 3), i);
        }
        Check.badState(x, "a ninth seam", () -> x.seam(0, 1, 1, 1));
        Check.badArgument(x, "a ninth seam within a room", () -> x.seam(1, 1, 1, 1));
        Check.outOfBounds(x, "a ninth seam from nowhere", () -> x.seam(6, 1, 1, 1));
        Check.due("count(11)", x.count(11), 6);
        x.undo();
        Check.due("the eighth seam again", x.seam(3, 4, 2, 2), 7);
        Check.due("seamOf(7, 0)", x.seamOf(7, 0), 3);
    }

    /** What an undone seam held is not in the seam that gets its number. */
    private static void seamAfterUndoIsNew() {
        SeamBeats x = new SeamBeats();
        x.put(0, 4);
        x.seam(0, 1, 3, 3);
        x.run(1);
        Check.due("seamOf(0, 4)", x.seamOf(0, 4), 1);
        x.undo();
        x.undo();
        Check.due("seam(2, 3, 2, 1)", x.seam(2, 3, 2, 1), 0);
        long[] want = {2, 3, 2, 1, 0, 0, 0};
        for (int what = 0; what < want.length; what++) {
            Check.due("new: seamOf(0, " + what + ")", x.seamOf(0, what), want[what]);
        }
        Check.due("onSeam(0, 0, 0)", x.onSeam(0, 0, 0), NONE);
        Check.due("room(0, 3)", x.room(0, 3), NONE);
        Check.due("count(3)", x.count(3), 1);
    }

    private static void route() {
        SeamBeats x = new SeamBeats();
        x.seam(0, 1, 2, 1);
        x.seam(0, 2, 2, 1);
        Check.due("route(0, 1)", x.route(0, 1), 0);
        Check.due("room(0, 3)", x.room(0, 3), 1);
        x.put(0, 9);
        x.run(1);
        Check.due("seamOf(1, 6): by the new route", x.seamOf(1, 6), 1);
        Check.due("seamOf(0, 6)", x.seamOf(0, 6), 0);
        Check.due("route(0, NONE)", x.route(0, NONE), 1);
        Check.due("room(0, 3) without", x.room(0, 3), NONE);
        x.put(0, 8);
        Check.due("run(1): out without a route, and of the room 2", x.run(1), 2);
        Check.due("room(0, 8)", x.room(0, 8), 1);
        Check.due("route(0, 0)", x.route(0, 0), NONE);
        Check.due("undo()", x.undo(), 5);
        Check.due("room(0, 3) after undo", x.room(0, 3), NONE);
        Check.due("route(4, NONE), which changes nothing", x.route(4, NONE), NONE);
        Check.due("count(11)", x.count(11), 6);
    }

    private static void routeRefuses() {
        SeamBeats x = new SeamBeats();
        Check.outOfBounds(x, "route(0, 0) without seams", () -> x.route(0, 0));
        x.seam(0, 1, 2, 1);
        x.seam(1, 2, 2, 1);
        int[] noRooms = {-1, 6, Integer.MIN_VALUE, Integer.MAX_VALUE};
        for (int room : noRooms) {
            Check.outOfBounds(x, "route(" + room + ", 0)", () -> x.route(room, 0));
            Check.outOfBounds(x, "route(" + room + ", NONE)", () -> x.route(room, NONE));
        }
        int[] noSeams = {-2, 2, 7, 8, Integer.MIN_VALUE, Integer.MAX_VALUE};
        for (int seam : noSeams) {
            Check.outOfBounds(x, "route(0, " + seam + ")", () -> x.route(0, seam));
        }
        Check.badArgument(x, "route(0, 1): from another room", () -> x.route(0, 1));
        Check.badArgument(x, "route(1, 0): into the room", () -> x.route(1, 0));
        Check.badArgument(x, "route(5, 1): of others", () -> x.route(5, 1));
        x.undo();
        Check.outOfBounds(x, "route(1, 1) when it is undone", () -> x.route(1, 1));
    }
}
