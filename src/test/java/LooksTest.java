/** Promises 14 to 18: room, queue, seamOf, onSeam, count. */
public final class LooksTest {
    private static final int NONE = SeamBeats.NONE;
    private static final int[] FAR = {Integer.MIN_VALUE, -2, -1, 99, 1000, Integer.MAX_VALUE};

    public static void main(String[] args) {
        room();
        roomRefuses();
        queue();
        queueRefuses();
        seamOf();
        seamOfRefuses();
        onSeam();
        onSeamRefuses();
        count();
        countRefuses();
        Check.end();
    }

    /** Room 0 hands to room 3 over the seam 0, of the size 2; room 3 beats in odd ticks. */
    private static SeamBeats example() {
        SeamBeats x = new SeamBeats();
        x.seam(0, 3, 2, 2);
        x.beat(3, 2, 1);
        Check.type(x, "0=11;0=22;0=33;0=44;5=66;3=5");
        x.putAll();
        x.lose(3, 1);
        x.run(6);
        return x;
    }

    // tick 0: 0 hands the item 0; the item 4 comes out of room 5
    // tick 1: 0 hands the item 1; 3 loses its beat
    // tick 2: 0 waits
    // tick 3: 0 waits; 3 lets the item 5 out, ages 1 1
    // tick 4: 0 waits
    // tick 5: 0 waits; ages 2 2, 3 takes the item 0
    private static void room() {
        SeamBeats x = example();
        long[] zero = {1, 0, 1, 0, 2, 0, 0, 4, 0, NONE, NONE};
        long[] three = {2, 1, 1, NONE, 1, 0, 1, 0, 1, 5, 0};
        long[] five = {1, 0, 1, NONE, 0, 0, 0, 0, 1, 66, NONE};
        for (int what = 0; what <= 10; what++) {
            int of = what;
            Check.look(x, "room(0, " + what + ")", zero[what], () -> x.room(0, of));
            Check.look(x, "room(3, " + what + ")", three[what], () -> x.room(3, of));
            Check.look(x, "room(5, " + what + ")", five[what], () -> x.room(5, of));
        }
    }

    private static void roomRefuses() {
        SeamBeats x = example();
        for (int far : FAR) {
            Check.outOfBounds(x, "room(" + far + ", 0)", () -> x.room(far, 0));
            Check.outOfBounds(x, "room(" + far + ", 11)", () -> x.room(far, 11));
            Check.badArgument(x, "room(0, " + far + ")", () -> x.room(0, far));
        }
        Check.outOfBounds(x, "room(6, 0)", () -> x.room(6, 0));
        Check.badArgument(x, "room(5, 11)", () -> x.room(5, 11));
    }

    private static void queue() {
        SeamBeats x = example();
        long[][] zero = {{2, 33}, {3, 44}};
        for (int place = 0; place < 8; place++) {
            for (int what = 0; what < 2; what++) {
                int at = place;
                int of = what;
                Check.look(x, "queue(0, " + place + ", " + what + ")", place < 2 ? zero[place][what] : NONE,
                    () -> x.queue(0, at, of));
            }
        }
        Check.due("queue(3, 0, 0)", x.queue(3, 0, 0), 0);
        Check.due("queue(3, 0, 1)", x.queue(3, 0, 1), 11);
        Check.due("queue(3, 1, 0)", x.queue(3, 1, 0), NONE);
        Check.due("queue(5, 0, 0)", x.queue(5, 0, 0), NONE);
        Check.type(x, "1=5*7;1=6");
        x.putAll();
        Check.due("queue(1, 7, 0)", x.queue(1, 7, 0), 13);
        Check.due("queue(1, 7, 1)", x.queue(1, 7, 1), 6);
    }

    private static void queueRefuses() {
        SeamBeats x = example();
        for (int far : FAR) {
            Check.outOfBounds(x, "queue(" + far + ", 0, 0)", () -> x.queue(far, 0, 0));
            Check.outOfBounds(x, "queue(" + far + ", 8, 2)", () -> x.queue(far, 8, 2));
            Check.badArgument(x, "queue(0, " + far + ", 0)", () -> x.queue(0, far, 0));
            Check.badArgument(x, "queue(0, 0, " + far + ")", () -> x.queue(0, 0, far));
        }
        Check.outOfBounds(x, "queue(6, 0, 0)", () -> x.queue(6, 0, 0));
        Check.badArgument(x, "queue(0, 8, 0)", () -> x.queue(0, 8, 0));
        Check.badArgument(x, "queue(0, 0, 2)", () -> x.queue(0, 0, 2));
        Check.badArgument(x, "queue(0, 7, 2)", () -> x.queue(0, 7, 2));
    }

    private static void seamOf() {
        SeamBeats x = example();
        long[] want = {0, 3, 2, 2, 1, 1, 2};
        for (int what = 0; what < want.length; what++) {
            int of = what;
            Check.look(x, "seamOf(0, " + what + ")", want[what], () -> x.seamOf(0, of));
        }
        x.run(1);
        Check.due("seamOf(0, 4) with one more", x.seamOf(0, 4), 2);
        Check.due("seamOf(0, 5): one is ripe", x.seamOf(0, 5), 1);
        Check.due("seamOf(0, 6)", x.seamOf(0, 6), 3);
    }

    private static void seamOfRefuses() {
        SeamBeats x = example();
        for (int far : FAR) {
            Check.outOfBounds(x, "seamOf(" + far + ", 0)", () -> x.seamOf(far, 0));
            Check.outOfBounds(x, "seamOf(" + far + ", 7)", () -> x.seamOf(far, 7));
            Check.badArgument(x, "seamOf(0, " + far + ")", () -> x.seamOf(0, far));
        }
        Check.outOfBounds(x, "seamOf(1, 0)", () -> x.seamOf(1, 0));
        Check.badArgument(x, "seamOf(0, 7)", () -> x.seamOf(0, 7));
    }

    private static void onSeam() {
        SeamBeats x = example();
        x.run(1);
        long[][] want = {{1, 22, 2}, {2, 33, 0}};
        for (int place = 0; place < 6; place++) {
            for (int what = 0; what < 3; what++) {
                int at = place;
                int of = what;
                Check.look(x, "onSeam(0, " + place + ", " + what + ")", place < 2 ? want[place][what] : NONE,
                    () -> x.onSeam(0, at, of));
            }
        }
    }

    private static void onSeamRefuses() {
        SeamBeats x = example();
        for (int far : FAR) {
            Check.outOfBounds(x, "onSeam(" + far + ", 0, 0)", () -> x.onSeam(far, 0, 0));
            Check.outOfBounds(x, "onSeam(" + far + ", 6, 3)", () -> x.onSeam(far, 6, 3));
            Check.badArgument(x, "onSeam(0, " + far + ", 0)", () -> x.onSeam(0, far, 0));
            Check.badArgument(x, "onSeam(0, 0, " + far + ")", () -> x.onSeam(0, 0, far));
        }
        Check.outOfBounds(x, "onSeam(1, 0, 0)", () -> x.onSeam(1, 0, 0));
        Check.badArgument(x, "onSeam(0, 6, 0)", () -> x.onSeam(0, 6, 0));
        Check.badArgument(x, "onSeam(0, 0, 3)", () -> x.onSeam(0, 0, 3));
        Check.badArgument(x, "onSeam(0, 5, 3)", () -> x.onSeam(0, 5, 3));
    }

    private static void count() {
        SeamBeats x = example();
        long[] want = {6, 1, 6, 3, 1, 2, 71, 5, 1, 4, 63 - 8, 5};
        for (int what = 0; what < want.length; what++) {
            int of = what;
            Check.look(x, "count(" + what + ")", want[what], () -> x.count(of));
        }
        x.run(1);
        x.wake(4, false);
        Check.due("count(10) at the tick 7", x.count(10), 63 - 16);
        x.lose(3, 1);
        Check.due("count(10) with a beat to lose", x.count(10), 63 - 16 - 8);
        x.lose(4, 1);
        Check.due("count(10) asleep", x.count(10), 63 - 16 - 8);
    }

    private static void countRefuses() {
        SeamBeats x = example();
        for (int far : FAR) {
            Check.badArgument(x, "count(" + far + ")", () -> x.count(far));
        }
        Check.badArgument(x, "count(12)", () -> x.count(12));
    }
}
