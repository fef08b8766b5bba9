import java.lang.reflect.Method;

/** Promises 19 to 24: ifRun, outIn, bestPhase, slowest, outShare, digest. */
public final class ProspectsTest {
    private static final int NONE = SeamBeats.NONE;
    private static final int[] FAR = {Integer.MIN_VALUE, -2, -1, 1000, Integer.MAX_VALUE};

    public static void main(String[] args) throws ReflectiveOperationException {
        ifRun();
        ifRunCountsOnlyWhatComes();
        ifRunRefuses();
        outIn();
        outInUpTo300();
        bestPhase();
        bestPhaseLooksAtAllRooms();
        bestPhaseLooks40Ticks();
        slowest();
        outShare();
        digestOfANewObject();
        digestFollowsTheList();
        digestTellsStatesApart();
        digestHasTheBitsOfEachShare();
        Check.end();
    }

    private static void ifRun() {
        SeamBeats x = new SeamBeats();
        x.seam(0, 1, 1, 3);
        x.lose(1, 2);
        Check.type(x, "0=5*3");
        x.putAll();
        // room 1 loses the ticks 0 and 1, takes the item 0 in 4, lets it out in 5, takes the item 1 in 7,
        // lets it out in 8; room 0 hands in 0, 5 and 8, and waits in 1 to 4, 6 and 7
        long[][] want = {{0, 3, 0, 0, 0}, {0, 2, 1, 0, 1}, {0, 2, 1, 1, 2}, {0, 2, 1, 2, 2}, {0, 2, 1, 3, 2},
            {0, 3, 0, 4, 2}, {1, 1, 1, 4, 2}, {1, 1, 1, 5, 2}, {1, 2, 0, 6, 2}, {2, 0, 1, 6, 2}};
        for (int ticks = 0; ticks < want.length; ticks++) {
            for (int what = 0; what < 5; what++) {
                int of = what;
                int in = ticks;
                Check.look(x, "ifRun(" + ticks + ", " + what + ")", want[ticks][what], () -> x.ifRun(in, of));
            }
        }
        Check.look(x, "ifRun(300, 0)", 3, () -> x.ifRun(300, 0));
        Check.due("count(0)", x.count(0), 0);
        Check.due("count(11)", x.count(11), 3);
    }

    private static void ifRunCountsOnlyWhatComes() {
        SeamBeats x = new SeamBeats();
        x.seam(0, 1, 1, 1);
        x.wake(1, false);
        Check.type(x, "0=1*3;2=1*4");
        x.putAll();
        x.lose(3, 5);
        x.run(3);
        Check.due("ifRun(2, 0)", x.ifRun(2, 0), 1);
        Check.due("ifRun(2, 1)", x.ifRun(2, 1), 2);
        Check.due("ifRun(2, 2)", x.ifRun(2, 2), 1);
        Check.due("ifRun(2, 3)", x.ifRun(2, 3), 2);
        Check.due("ifRun(2, 4)", x.ifRun(2, 4), 2);
        Check.due("ifRun(0, 3)", x.ifRun(0, 3), 0);
        Check.due("ifRun(0, 4)", x.ifRun(0, 4), 0);
        Check.due("ifRun(0, 0)", x.ifRun(0, 0), 0);
    }

    private static void ifRunRefuses() {
        SeamBeats x = new SeamBeats();
        for (int far : FAR) {
            Check.badArgument(x, "ifRun(" + far + ", 0)", () -> x.ifRun(far, 0));
            Check.badArgument(x, "ifRun(0, " + far + ")", () -> x.ifRun(0, far));
        }
        Check.badArgument(x, "ifRun(301, 0)", () -> x.ifRun(301, 0));
        Check.badArgument(x, "ifRun(0, 5)", () -> x.ifRun(0, 5));
        for (int what = 0; what < 5; what++) {
            int of = what;
            Check.look(x, "ifRun(0, " + what + ")", 0, () -> x.ifRun(0, of));
            Check.look(x, "ifRun(300, " + what + ")", 0, () -> x.ifRun(300, of));
        }
    }

    private static void outIn() {
        SeamBeats x = new SeamBeats();
        Check.outOfBounds(x, "outIn(0) without items", () -> x.outIn(0));
        x.seam(0, 1, 2, 2);
        x.put(0, 1);
        x.put(0, 2);
        x.put(3, 3);
        // the item 0 is handed in the tick 0 with the age 1 then, taken in 1, out in 2; the item 1 one later
        Check.look(x, "outIn(0)", 3, () -> x.outIn(0));
        Check.look(x, "outIn(1)", 4, () -> x.outIn(1));
        Check.look(x, "outIn(2)", 1, () -> x.outIn(2));
        for (int far : FAR) {
            Check.outOfBounds(x, "outIn(" + far + ")", () -> x.outIn(far));
        }
        Check.outOfBounds(x, "outIn(3)", () -> x.outIn(3));
        x.run(1);
        Check.due("outIn(2) when out", x.outIn(2), 0);
        Check.due("outIn(0) on the seam", x.outIn(0), 2);
        x.run(1);
        Check.due("outIn(0) in the queue", x.outIn(0), 1);
        x.wake(1, false);
        Check.due("outIn(0) when the room sleeps", x.outIn(0), NONE);
        x.run(50);
        Check.due("outIn(2) stays out", x.outIn(2), 0);
        x.undo();
        x.undo();
        Check.due("outIn(0) after undo", x.outIn(0), 1);
    }

    private static void outInUpTo300() {
        SeamBeats x = new SeamBeats();
        x.beat(0, 4, 3);
        for (int i = 0; i < 3; i++) {
            x.lose(0, 20);
        }
        x.lose(0, 14);
        x.put(0, 1);
        x.put(0, 2);
        // 74 lost beats, then one beat in the tick 4 * 74 + 3 = 299
        Check.due("outIn(0): the last tick that counts", x.outIn(0), 300);
        Check.due("outIn(1): more than 300", x.outIn(1), NONE);
        Check.due("ifRun(300, 0)", x.ifRun(300, 0), 1);
        Check.due("ifRun(299, 0)", x.ifRun(299, 0), 0);
        x.run(1);
        Check.due("outIn(0) a tick later", x.outIn(0), 299);
        x.run(3);
        Check.due("outIn(1) four ticks later", x.outIn(1), 300);
    }

    private static void bestPhase() {
        SeamBeats x = new SeamBeats();
        for (int room = 0; room < 6; room++) {
            int of = room;
            Check.look(x, "bestPhase(" + room + ")", 0, () -> x.bestPhase(of));
        }
        for (int far : FAR) {
            Check.outOfBounds(x, "bestPhase(" + far + ")", () -> x.bestPhase(far));
        }
        Check.outOfBounds(x, "bestPhase(6)", () -> x.bestPhase(6));
        x.beat(0, 4, 3);
        x.put(0, 1);
        Check.due("bestPhase(0): all are as good", x.bestPhase(0), 0);
    }

    /** Room 2 can take only in the ticks in which items of the room 0 lie ripe before it. */
    private static void bestPhaseLooksAtAllRooms() {
        SeamBeats x = new SeamBeats();
        x.seam(0, 1, 1, 1);
        x.seam(1, 2, 1, 1);
        x.beat(0, 3, 0);
        x.beat(1, 4, 0);
        x.beat(2, 4, 3);
        Check.type(x, "0=1*8;1=2*8;2=3*8;5=1*8");
        x.putAll();
        for (int room = 0; room < 6; room++) {
            int of = room;
            Check.look(x, "bestPhase(" + room + ")", bestByHand(room), () -> x.bestPhase(of));
        }
        Check.due("room(2, 1) stays", x.room(2, 1), 3);
    }

    private static int bestByHand(int room) {
        int best = 0;
        int most = -1;
        int[][] beats = {{3, 0}, {4, 0}, {4, 3}, {1, 0}, {1, 0}, {1, 0}};
        for (int phase = 0; phase < beats[room][0]; phase++) {
            SeamBeats y = new SeamBeats();
            y.seam(0, 1, 1, 1);
            y.seam(1, 2, 1, 1);
            for (int i = 0; i < 3; i++) {
                y.beat(i, beats[i][0], i == room ? phase : beats[i][1]);
            }
            Check.type(y, "0=1*8;1=2*8;2=3*8;5=1*8");
            y.putAll();
            int out = y.run(40);
            if (out > most) {
                most = out;
                best = phase;
            }
        }
        return best;
    }

    /** With 9 beats to lose, only the phases that come a tenth time within 40 ticks let the item out. */
    private static void bestPhaseLooks40Ticks() {
        SeamBeats x = new SeamBeats();
        x.beat(0, 4, 0);
        x.lose(0, 9);
        x.put(0, 1);
        x.run(1);
        Check.due("bestPhase(0): 8 to lose", x.bestPhase(0), 0);
        x.undo();
        x.lose(0, 1);
        Check.due("bestPhase(0): none lets it out", x.bestPhase(0), 0);
        x.undo();
        Check.due("bestPhase(0): the tick 36 to 39", x.bestPhase(0), 0);
        x.beat(1, 3, 0);
        x.lose(1, 13);
        x.put(1, 2);
        // beats of room 1 within the ticks 0 to 39: 14 with the phase 0, 13 with 1 and 2
        Check.due("bestPhase(1)", x.bestPhase(1), 0);
        x.run(1);
        // now 12 to lose within the ticks 1 to 40: 13 with the phase 0, 14 with 1, 13 with 2
        Check.due("room(1, 5)", x.room(1, 5), 12);
        Check.due("bestPhase(1) at the tick 1", x.bestPhase(1), 0);
        x.lose(1, 1);
        Check.due("bestPhase(1) with 13 to lose", x.bestPhase(1), 1);
        x.run(1);
        Check.due("bestPhase(1) at the tick 2", x.bestPhase(1), 2);
        x.lose(1, 1);
        Check.due("bestPhase(1) with too many to lose", x.bestPhase(1), 0);
        x.undo();
        x.beat(1, 3, 2);
        Check.due("bestPhase(1) whatever its phase is", x.bestPhase(1), 2);
    }

    private static void slowest() {
        SeamBeats x = new SeamBeats();
        Check.look(x, "slowest()", NONE, x::slowest);
        x.seam(4, 5, 1, 1);
        x.seam(1, 5, 1, 1);
        x.wake(5, false);
        Check.type(x, "4=1*3;1=1*2");
        x.putAll();
        x.run(1);
        Check.look(x, "slowest() without waits", NONE, x::slowest);
        x.run(1);
        Check.look(x, "slowest() with one wait each", 1, x::slowest);
        x.run(1);
        Check.look(x, "slowest(): both as much, the lowest", 1, x::slowest);
        x.route(1, NONE);
        x.run(1);
        Check.look(x, "slowest(): room 4 more", 4, x::slowest);
        x.undo();
        Check.look(x, "slowest() after undo", 1, x::slowest);
    }

    private static void outShare() {
        SeamBeats x = new SeamBeats();
        Check.dueDouble("outShare() without items", x.outShare(), 1.0);
        x.put(0, 1);
        Check.dueDouble("outShare() with none out", x.outShare(), 0.0);
        x.run(1);
        Check.dueDouble("outShare() with all out", x.outShare(), 1.0);
        Check.type(x, "0=1*8;1=1*8");
        x.putAll();
        x.run(3);
        long before = x.digest();
        Check.dueDouble("outShare()", x.outShare(), 7.0 / 17.0);
        Check.due("digest() after outShare()", x.digest(), before);
        x.undo();
        Check.dueDouble("outShare() after undo", x.outShare(), 1.0 / 17.0);
    }

    private static void digestOfANewObject() {
        long hash = 2689;
        long[] counts = {0, 0, 0, 0, 0, 0, 0, NONE, 0, 0, 63, 0};
        for (long v : counts) {
            hash = 31 * hash + v;
        }
        long[] properties = {1, 0, 1, NONE, 0, 0, 0, 0, 0, NONE, NONE};
        for (int room = 0; room < 6; room++) {
            for (long v : properties) {
                hash = 31 * hash + v;
            }
            hash = 31 * hash;
        }
        for (int i = 0; i < 5; i++) {
            hash = 31 * hash;
        }
        hash = 31 * hash + NONE;
        hash = 31 * hash + Double.doubleToLongBits(1.0);
        hash = 31 * hash;
        Check.due("digest() of a new object", new SeamBeats().digest(), hash);
    }

    /** The digest as the document lists it, put together from the answers of the other calls. */
    static long digestByCalls(SeamBeats x, String buffer) {
        long hash = 2689;
        for (int what = 0; what <= 11; what++) {
            hash = 31 * hash + x.count(what);
        }
        for (int room = 0; room < 6; room++) {
            for (int what = 0; what <= 10; what++) {
                hash = 31 * hash + x.room(room, what);
            }
            for (int place = 0; place < x.room(room, 4); place++) {
                hash = 31 * hash + x.queue(room, place, 0);
                hash = 31 * hash + x.queue(room, place, 1);
            }
            hash = 31 * hash + x.bestPhase(room);
        }
        for (int seam = 0; seam < x.count(1); seam++) {
            for (int what = 0; what <= 6; what++) {
                hash = 31 * hash + x.seamOf(seam, what);
            }
            for (int place = 0; place < x.seamOf(seam, 4); place++) {
                for (int what = 0; what <= 2; what++) {
                    hash = 31 * hash + x.onSeam(seam, place, what);
                }
            }
        }
        for (int what = 0; what <= 4; what++) {
            hash = 31 * hash + x.ifRun(30, what);
        }
        if (x.count(2) > 0) {
            hash = 31 * hash + x.outIn(0);
        }
        hash = 31 * hash + x.slowest();
        hash = 31 * hash + Double.doubleToLongBits(x.outShare());
        hash = 31 * hash + buffer.length();
        for (int i = 0; i < buffer.length(); i++) {
            hash = 31 * hash + buffer.charAt(i);
        }
        return hash;
    }

    private static void digestFollowsTheList() {
        SeamBeats x = new SeamBeats();
        x.seam(0, 1, 2, 3);
        x.seam(1, 2, 1, 2);
        x.seam(3, 2, 6, 1);
        x.beat(1, 3, 2);
        x.beat(2, 2, 0);
        x.lose(0, 3);
        x.lose(5, 20);
        x.lose(5, 20);
        Check.type(x, "0=10*5;1=20*4;3=99*7;4=1");
        x.putAll();
        Check.type(x, "0=~");
        Check.due("digest()", x.digest(), digestByCalls(x, "0=~"));
        for (int i = 0; i < 12; i++) {
            x.run(1 + i % 3);
            Check.due("digest() after run " + i, x.digest(), digestByCalls(x, "0=~"));
        }
    }

    private static void digestTellsStatesApart() {
        SeamBeats x = new SeamBeats();
        for (int round = 0; round < 40; round++) {
            long before = x.digest();
            if (round % 3 == 0) {
                x.put(round % 6, round);
            } else if (round % 3 == 1) {
                x.run(1);
            } else {
                x.put((round + 3) % 6, round);
            }
            Check.dueTrue("digest() in the round " + round, x.digest() != before);
            Check.due("digest() by calls in the round " + round, x.digest(), digestByCalls(x, ""));
        }
    }

    /** The class makes the bits by itself, as its library has no function for them. */
    private static void digestHasTheBitsOfEachShare() throws ReflectiveOperationException {
        Method bits = SeamBeats.class.getDeclaredMethod("bitsOfShare", double.class);
        bits.setAccessible(true);
        for (int put = 1; put <= 999; put++) {
            for (int out = 0; out <= put; out++) {
                double share = (double) out / put;
                Check.due("the bits of " + share, (long) bits.invoke(null, share), Double.doubleToLongBits(share));
            }
        }
    }
}
