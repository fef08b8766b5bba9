/** Promises 7 and 8: put, run, and what the document says under Ticks. */
public final class ItemsAndTicksTest {
    private static final int NONE = SeamBeats.NONE;

    public static void main(String[] args) {
        put();
        putRefuses();
        putUpTo999();
        runCountsWhatComesOut();
        runRefuses();
        roomsGoByAscendingNumbers();
        itemsGrowInTheSameTickOnlyTowardsGreaterNumbers();
        agesStopAtTheCrossing();
        fullSeamMakesWait();
        fullQueueTakesNothing();
        handingGoesBeforeTaking();
        turnsOfSeams();
        turnStaysWithTheRoom();
        phasesFollowTheNumberOfTheTick();
        lostBeatDoesNothing();
        sleepingRoomDoesNothing();
        rerouteLeavesOldItemsOnTheirWay();
        valuesOfWhatComesOut();
        Check.end();
    }

    private static void put() {
        SeamBeats x = new SeamBeats();
        Check.due("put(3, 0)", x.put(3, 0), 0);
        Check.due("put(3, 99)", x.put(3, 99), 1);
        Check.due("put(0, 42)", x.put(0, 42), 2);
        Check.due("room(3, 4)", x.room(3, 4), 2);
        Check.due("queue(3, 0, 0)", x.queue(3, 0, 0), 0);
        Check.due("queue(3, 0, 1)", x.queue(3, 0, 1), 0);
        Check.due("queue(3, 1, 0)", x.queue(3, 1, 0), 1);
        Check.due("queue(3, 1, 1)", x.queue(3, 1, 1), 99);
        Check.due("queue(0, 0, 0)", x.queue(0, 0, 0), 2);
        Check.due("count(2)", x.count(2), 3);
        Check.due("count(3)", x.count(3), 3);
        Check.due("count(11)", x.count(11), 3);
        Check.due("undo()", x.undo(), 2);
        Check.due("count(2) after undo", x.count(2), 2);
        Check.due("put(0, 1): the number again", x.put(0, 1), 2);
        Check.due("queue(0, 0, 1)", x.queue(0, 0, 1), 1);
    }

    private static void putRefuses() {
        SeamBeats x = new SeamBeats();
        int[] noRooms = {-1, 6, Integer.MIN_VALUE, Integer.MAX_VALUE};
        for (int room : noRooms) {
            Check.outOfBounds(x, "put(" + room + ", 1)", () -> x.put(room, 1));
            Check.outOfBounds(x, "put(" + room + ", 100)", () -> x.put(room, 100));
        }
        int[] bad = {-1, 100, Integer.MIN_VALUE, Integer.MAX_VALUE};
        for (int value : bad) {
            Check.badArgument(x, "put(0, " + value + ")", () -> x.put(0, value));
        }
        for (int i = 0; i < 8; i++) {
            Check.due("put " + i, x.put(4, i), i);
        }
        Check.badState(x, "a ninth item", () -> x.put(4, 8));
        Check.badArgument(x, "a ninth item of a bad value", () -> x.put(4, 100));
        Check.due("another room", x.put(5, 8), 8);
        Check.due("count(11)", x.count(11), 6);
    }

    /** An object gets there only after its 512th call, which is not promised any more, but is kept. */
    private static void putUpTo999() {
        SeamBeats x = new SeamBeats();
        for (int round = 1; round <= 20; round++) {
            Check.type(x, "0=1*8;1=1*8;2=1*8;3=1*8;4=1*8;5=1*8");
            Check.due("putAll() " + round, x.putAll(), 48L * round);
            x.run(8);
        }
        for (int i = 960; i < 998; i++) {
            Check.due("put " + i, x.put(i % 6, 1), i);
        }
        Check.type(x, "4=1*2");
        Check.badState(x, "putAll() up to 1000", x::putAll);
        Check.due("put 998", x.put(5, 1), 998);
        Check.badState(x, "put of the item 999", () -> x.put(0, 1));
        Check.badArgument(x, "put(0, 100) with 999", () -> x.put(0, 100));
        x.clearBuffer();
        Check.type(x, "4=1");
        Check.badState(x, "putAll() of the item 999", x::putAll);
        x.undo();
        Check.due("putAll() when one place is free", x.putAll(), 999);
        Check.due("count(5)", x.count(5), 960);
    }

    private static void runCountsWhatComesOut() {
        SeamBeats x = new SeamBeats();
        x.put(0, 10);
        x.put(0, 20);
        x.put(1, 30);
        Check.due("run(1)", x.run(1), 2);
        Check.due("count(0)", x.count(0), 1);
        Check.due("count(5)", x.count(5), 2);
        Check.due("count(6)", x.count(6), 40);
        Check.due("count(7): of the greater room", x.count(7), 2);
        Check.due("room(0, 8)", x.room(0, 8), 1);
        Check.due("room(0, 9)", x.room(0, 9), 10);
        Check.due("room(1, 9)", x.room(1, 9), 30);
        Check.due("run(99)", x.run(99), 1);
        Check.due("count(0)", x.count(0), 100);
        Check.due("count(11): as one call each", x.count(11), 5);
        Check.due("undo()", x.undo(), 4);
        Check.due("count(0) after undo", x.count(0), 1);
        Check.due("count(5) after undo", x.count(5), 2);
        Check.due("room(0, 9) after undo", x.room(0, 9), 10);
        Check.due("queue(0, 0, 0) after undo", x.queue(0, 0, 0), 1);
        Check.due("run(1) again", x.run(1), 1);
    }

    private static void runRefuses() {
        SeamBeats x = new SeamBeats();
        int[] bad = {0, -1, 100, Integer.MIN_VALUE, Integer.MAX_VALUE};
        for (int ticks : bad) {
            Check.badArgument(x, "run(" + ticks + ")", () -> x.run(ticks));
        }
        for (int i = 0; i < 101; i++) {
            Check.due("run(99)", x.run(99), 0);
        }
        Check.due("count(0) at the end", x.count(0), 9999);
        Check.badState(x, "run(1) at 9999", () -> x.run(1));
        Check.badState(x, "run(99) at 9999", () -> x.run(99));
        Check.badArgument(x, "run(100) at 9999", () -> x.run(100));
        x.put(0, 3);
        Check.due("ifRun(300, 0) at 9999", x.ifRun(300, 0), 1);
        Check.due("outIn(0) at 9999", x.outIn(0), 1);
        Check.due("bestPhase(0) at 9999", x.bestPhase(0), 0);
        x.undo();
        x.undo();
        Check.due("run(98)", x.run(98), 0);
        Check.badState(x, "run(2) at 9998", () -> x.run(2));
        Check.due("run(1) at 9998", x.run(1), 0);
    }

    private static void roomsGoByAscendingNumbers() {
        SeamBeats x = new SeamBeats();
        x.seam(1, 0, 1, 1);
        x.seam(2, 1, 1, 1);
        x.put(1, 11);
        x.put(1, 12);
        x.put(2, 22);
        x.run(1);
        Check.due("seamOf(0, 4)", x.seamOf(0, 4), 1);
        Check.due("seamOf(1, 4)", x.seamOf(1, 4), 1);
        Check.due("onSeam(0, 0, 2): room 0 was before", x.onSeam(0, 0, 2), 0);
        Check.due("onSeam(1, 0, 2): room 1 was before", x.onSeam(1, 0, 2), 0);
        x.run(1);
        Check.due("room 0 took before room 1 handed: no waits", x.room(1, 7), 0);
        Check.due("queue(0, 0, 1)", x.queue(0, 0, 1), 11);
        Check.due("onSeam(0, 0, 1)", x.onSeam(0, 0, 1), 12);
        Check.due("queue(1, 0, 1)", x.queue(1, 0, 1), 22);
        Check.due("run(2)", x.run(2), 2);
        Check.due("count(7)", x.count(7), 1);
    }

    private static void itemsGrowInTheSameTickOnlyTowardsGreaterNumbers() {
        SeamBeats x = new SeamBeats();
        x.seam(0, 1, 2, 1);
        x.seam(3, 2, 2, 1);
        x.put(0, 5);
        x.put(3, 6);
        x.run(1);
        Check.due("room(1, 4): grown and taken at once", x.room(1, 4), 1);
        Check.due("seamOf(0, 6)", x.seamOf(0, 6), 1);
        Check.due("seamOf(0, 4)", x.seamOf(0, 4), 0);
        Check.due("room(2, 4): not yet", x.room(2, 4), 0);
        Check.due("seamOf(1, 4)", x.seamOf(1, 4), 1);
        Check.due("seamOf(1, 5)", x.seamOf(1, 5), 0);
        Check.due("run(1)", x.run(1), 1);
        Check.due("room(1, 9)", x.room(1, 9), 5);
        Check.due("queue(2, 0, 1)", x.queue(2, 0, 1), 6);
    }

    private static void agesStopAtTheCrossing() {
        SeamBeats x = new SeamBeats();
        x.seam(0, 1, 6, 2);
        Check.type(x, "1=1*8;0=2*4");
        x.putAll();
        x.seam(1, 2, 1, 3);
        x.wake(2, false);
        x.run(9);
        long[] ages = {2, 2, 2, NONE};
        for (int place = 0; place < ages.length; place++) {
            Check.due("onSeam(0, " + place + ", 2)", x.onSeam(0, place, 2), ages[place]);
        }
        Check.due("room(1, 4): the queue is full", x.room(1, 4), 8);
        Check.due("seamOf(0, 4)", x.seamOf(0, 4), 3);
        Check.due("seamOf(0, 5)", x.seamOf(0, 5), 3);
        Check.due("onSeam(1, 0, 2): its room sleeps", x.onSeam(1, 0, 2), 0);
    }

    private static void fullSeamMakesWait() {
        SeamBeats x = new SeamBeats();
        x.seam(0, 1, 2, 3);
        x.wake(1, false);
        Check.type(x, "0=7*5");
        x.putAll();
        x.run(2);
        Check.due("room(0, 7): none so far", x.room(0, 7), 0);
        x.run(3);
        Check.due("room(0, 7)", x.room(0, 7), 3);
        Check.due("count(9)", x.count(9), 3);
        Check.due("room(0, 4)", x.room(0, 4), 3);
        Check.due("seamOf(0, 4)", x.seamOf(0, 4), 2);
        Check.due("seamOf(0, 6)", x.seamOf(0, 6), 2);
        Check.due("queue(0, 0, 0)", x.queue(0, 0, 0), 2);
        Check.due("slowest()", x.slowest(), 0);
        x.route(0, NONE);
        x.run(4);
        Check.due("room(0, 7): no wait without items or a route", x.room(0, 7), 3);
    }

    private static void fullQueueTakesNothing() {
        SeamBeats x = new SeamBeats();
        x.seam(1, 2, 1, 3);
        x.wake(2, false);
        x.seam(0, 1, 3, 1);
        Check.type(x, "1=1*8;0=2");
        x.putAll();
        x.run(1);
        Check.due("room(1, 4): one handed, one taken", x.room(1, 4), 8);
        Check.due("room(1, 10)", x.room(1, 10), 1);
        x.put(0, 3);
        x.run(5);
        Check.due("room(1, 4) stays full", x.room(1, 4), 8);
        Check.due("seamOf(1, 5): ripe, but not taken", x.seamOf(1, 5), 1);
    }

    private static void handingGoesBeforeTaking() {
        SeamBeats x = new SeamBeats();
        x.seam(0, 1, 1, 1);
        x.put(0, 1);
        Check.due("run(1): taken, not out in the same tick", x.run(1), 0);
        Check.due("queue(1, 0, 0)", x.queue(1, 0, 0), 0);
        x.put(0, 2);
        Check.due("run(1)", x.run(1), 1);
        Check.due("queue(1, 0, 0)", x.queue(1, 0, 0), 1);
    }

    private static void turnsOfSeams() {
        SeamBeats x = new SeamBeats();
        x.seam(0, 5, 6, 1);
        x.seam(1, 5, 6, 1);
        x.seam(2, 5, 6, 1);
        Check.type(x, "0=10*3;1=20*3;2=30*3");
        x.putAll();
        x.run(1);
        Check.due("room(5, 10): the lowest first", x.room(5, 10), 0);
        x.run(1);
        Check.due("room(5, 10): above 0", x.room(5, 10), 1);
        x.run(1);
        Check.due("room(5, 10): above 1", x.room(5, 10), 2);
        x.run(1);
        Check.due("room(5, 10): none above, the lowest", x.room(5, 10), 0);
        Check.due("room(5, 9)", x.room(5, 9), 30);
        x.run(5);
        Check.due("room(5, 10) at the last one", x.room(5, 10), 2);
        Check.due("run(1)", x.run(1), 1);
        Check.due("count(5)", x.count(5), 9);
        Check.due("room(5, 10) stays", x.room(5, 10), 2);
        x.put(1, 40);
        x.run(1);
        Check.due("room(5, 10): the only ripe one", x.room(5, 10), 1);
    }

    private static void turnStaysWithTheRoom() {
        SeamBeats x = new SeamBeats();
        x.seam(0, 5, 6, 3);
        x.seam(1, 5, 6, 1);
        x.put(0, 10);
        x.put(1, 20);
        x.put(1, 21);
        x.run(1);
        Check.due("room(5, 10): 0 is not ripe", x.room(5, 10), 1);
        x.run(1);
        Check.due("room(5, 10): again", x.room(5, 10), 1);
        x.put(1, 22);
        x.run(1);
        Check.due("room(5, 10): none above 1, the lowest", x.room(5, 10), 0);
        Check.due("seamOf(1, 5): ripe and left", x.seamOf(1, 5), 1);
        Check.due("undo()", x.undo(), 5);
        Check.due("room(5, 10) after undo", x.room(5, 10), 1);
    }

    private static void phasesFollowTheNumberOfTheTick() {
        SeamBeats x = new SeamBeats();
        x.beat(0, 3, 1);
        Check.type(x, "0=1*8");
        x.putAll();
        int[] out = {0, 1, 1, 1, 2, 2, 2, 3, 3, 3, 4};
        for (int tick = 0; tick < out.length; tick++) {
            Check.due("count(10) in the tick " + tick, x.count(10) & 1, tick % 3 == 1 ? 1 : 0);
            x.run(1);
            Check.due("count(5) after the tick " + tick, x.count(5), out[tick]);
        }
        x.beat(0, 4, 3);
        Check.due("run(1) in the tick 11", x.run(1), 1);
        Check.due("run(3)", x.run(3), 0);
        Check.due("run(1) in the tick 15", x.run(1), 1);
    }

    private static void lostBeatDoesNothing() {
        SeamBeats x = new SeamBeats();
        x.seam(0, 1, 6, 1);
        Check.type(x, "0=1*3");
        x.putAll();
        x.lose(1, 2);
        x.run(2);
        Check.due("onSeam(0, 0, 2): not grown", x.onSeam(0, 0, 2), 0);
        Check.due("room(1, 4): nothing taken", x.room(1, 4), 0);
        Check.due("room(1, 6)", x.room(1, 6), 2);
        Check.due("room(1, 5)", x.room(1, 5), 0);
        x.run(1);
        Check.due("seamOf(0, 5)", x.seamOf(0, 5), 2);
        Check.due("room(1, 4)", x.room(1, 4), 1);
        Check.due("count(8)", x.count(8), 2);
    }

    private static void sleepingRoomDoesNothing() {
        SeamBeats x = new SeamBeats();
        x.seam(0, 1, 6, 1);
        x.put(0, 1);
        x.put(1, 2);
        x.wake(1, false);
        Check.due("run(3)", x.run(3), 0);
        Check.due("onSeam(0, 0, 2)", x.onSeam(0, 0, 2), 0);
        Check.due("room(1, 4)", x.room(1, 4), 1);
        x.wake(1, true);
        Check.due("run(1)", x.run(1), 1);
        Check.due("queue(1, 0, 0)", x.queue(1, 0, 0), 0);
    }

    private static void rerouteLeavesOldItemsOnTheirWay() {
        SeamBeats x = new SeamBeats();
        x.seam(0, 3, 6, 3);
        x.put(0, 1);
        x.put(0, 2);
        x.run(1);
        x.route(0, NONE);
        Check.due("run(1): the second one comes out first", x.run(1), 1);
        Check.due("count(7)", x.count(7), 1);
        Check.due("run(2)", x.run(2), 1);
        Check.due("count(7)", x.count(7), 0);
        Check.due("run(50): each item once", x.run(50), 0);
        Check.due("count(5)", x.count(5), 2);
    }

    private static void valuesOfWhatComesOut() {
        SeamBeats x = new SeamBeats();
        x.put(2, 99);
        x.put(2, 0);
        x.put(4, 50);
        x.run(1);
        Check.due("count(6)", x.count(6), 149);
        Check.due("count(7)", x.count(7), 2);
        x.run(1);
        Check.due("room(2, 9): the value 0", x.room(2, 9), 0);
        Check.due("count(6)", x.count(6), 149);
        Check.due("count(7)", x.count(7), 1);
        Check.due("room(4, 9) stays", x.room(4, 9), 50);
        Check.due("count(5)", x.count(5), 3);
    }
}
