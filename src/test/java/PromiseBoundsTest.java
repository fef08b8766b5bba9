/**
 * What the promises say of each call: its answers at the limits that they name. What is refused there, in each
 * state and with each mixture of arguments, stands in RefusedCallsTest; the limits of the terms in TermsBoundsTest.
 */
public final class PromiseBoundsTest {
    private static final int NONE = SeamBeats.NONE;

    public static void main(String[] args) {
        newObject();
        beat();
        wake();
        lose();
        loseUpTo99();
        seam();
        seamAsRoute();
        route();
        put();
        run();
        runUpTo9999();
        append();
        clearBuffer();
        firstError();
        putAllUpToEight();
        putAllOfNineOrMore();
        putAllOrNone();
        undo();
        room();
        roomWithout();
        queue();
        seamOf();
        onSeam();
        countsAtFirst();
        countsAtTheLimits();
        maskOfRooms();
        ifRun();
        outInUpTo300();
        outInOfItems();
        bestPhaseBelowThePeriod();
        bestPhaseIn40Ticks();
        bestPhaseOfAllRooms();
        slowest();
        outShare();
        limitOfTicksDoesNotMatter();
        digestAtTheLimits();
        Check.end();
    }

    private static void put(SeamBeats x, String items) {
        Check.type(x, items);
        x.putAll();
    }

    private static void newObject() {
        Check.says("Creates rooms without seams and items, at the tick 0, with an empty buffer.");
        SeamBeats x = new SeamBeats();
        Check.due("seams", x.count(1), 0);
        Check.outOfBounds(x, "seamOf(0, 0)", () -> x.seamOf(0, 0));
        Check.outOfBounds(x, "onSeam(0, 0, 0)", () -> x.onSeam(0, 0, 0));
        Check.outOfBounds(x, "route(0, 0)", () -> x.route(0, 0));
        Check.due("items put", x.count(2), 0);
        Check.due("items in queues", x.count(3), 0);
        Check.outOfBounds(x, "outIn(0)", () -> x.outIn(0));
        Check.due("the tick", x.count(0), 0);
        Check.due("the length of the buffer", x.append('0'), 1);
        Check.badState(x, "undo()", x::undo);
    }

    private static void beat() {
        Check.says("Returns the previous beats: 10 * the period and the phase.");
        SeamBeats x = new SeamBeats();
        int before = 10;
        for (int period = 4; period >= 1; period--) {
            for (int phase = period - 1; phase >= 0; phase--) {
                Check.due("beat(5, " + period + ", " + phase + ")", x.beat(5, period, phase), before);
                before = 10 * period + phase;
            }
        }
        Check.due("another room has its own", x.beat(0, 4, 3), 10);
        Check.due("the greatest beats", x.beat(0, 1, 0), 43);
    }

    private static void wake() {
        Check.says("Returns 1 if it was awake, otherwise 0.");
        SeamBeats x = new SeamBeats();
        boolean[] next = {true, false, false, true, true};
        int[] want = {1, 1, 0, 0, 1};
        for (int i = 0; i < next.length; i++) {
            Check.due("wake(5, " + next[i] + ") as the call " + i, x.wake(5, next[i]), want[i]);
            Check.due("room(5, 2)", x.room(5, 2), next[i] ? 1 : 0);
            Check.due("room(0, 2)", x.room(0, 2), 1);
        }
    }

    private static void lose() {
        Check.says("beats: 1 to 20");
        SeamBeats x = new SeamBeats();
        Check.due("lose(5, 1)", x.lose(5, 1), 1);
        Check.due("lose(5, 20)", x.lose(5, 20), 21);
        Check.badArgument(x, "lose(5, 0)", () -> x.lose(5, 0));
        Check.badArgument(x, "lose(5, 21)", () -> x.lose(5, 21));
        Check.due("another room has its own", x.lose(0, 20), 20);
    }

    private static void loseUpTo99() {
        Check.says("Throws IllegalStateException if it would have more than 99 to lose");
        SeamBeats x = new SeamBeats();
        for (int i = 1; i <= 4; i++) {
            Check.due("lose(3, 20)", x.lose(3, 20), 20 * i);
        }
        Check.badState(x, "lose(3, 20) with 80", () -> x.lose(3, 20));
        Check.due("lose(3, 18) with 80", x.lose(3, 18), 98);
        Check.badState(x, "lose(3, 2) with 98", () -> x.lose(3, 2));
        Check.due("lose(3, 1) with 98", x.lose(3, 1), 99);
        Check.badState(x, "lose(3, 1) with 99", () -> x.lose(3, 1));
        Check.badState(x, "lose(3, 20) with 99", () -> x.lose(3, 20));
        x.run(1);
        Check.due("lose(3, 1) when one was lost", x.lose(3, 1), 99);
        for (int i = 0; i < 4; i++) {
            x.undo();
        }
        Check.due("with 80 again", x.room(3, 5), 80);
        Check.due("lose(3, 19) with 80", x.lose(3, 19), 99);
    }

    private static void seam() {
        Check.says("Throws IllegalStateException if there are 8 seams");
        SeamBeats x = new SeamBeats();
        for (int i = 0; i < 8; i++) {
            Check.due("the seam " + i, x.seam(i % 6, (i + 1) % 6, 1 + 5 * (i % 2), 1 + 2 * (i % 2)), i);
            Check.due("its size", x.seamOf(i, 2), 1 + 5 * (i % 2));
            Check.due("its crossing", x.seamOf(i, 3), 1 + 2 * (i % 2));
        }
        Check.badState(x, "the seam 8", () -> x.seam(0, 1, 6, 3));
        Check.badArgument(x, "the seam 8, of a bad size", () -> x.seam(0, 1, 7, 3));
        Check.badArgument(x, "the seam 8, of a bad crossing", () -> x.seam(0, 1, 6, 4));
        Check.badArgument(x, "the seam 8, within a room", () -> x.seam(0, 0, 6, 3));
        Check.outOfBounds(x, "the seam 8, from nowhere", () -> x.seam(-1, 0, 6, 3));
        Check.outOfBounds(x, "the seam 8, to nowhere", () -> x.seam(0, 6, 6, 3));
    }

    private static void seamAsRoute() {
        Check.says("if the room from which it goes has no route, the seam is its route");
        SeamBeats x = new SeamBeats();
        x.seam(3, 4, 1, 1);
        Check.due("the route", x.room(3, 3), 0);
        Check.due("the room to which it goes", x.room(4, 3), NONE);
        x.seam(3, 5, 1, 1);
        Check.due("with a route, 0, it stays", x.room(3, 3), 0);
        x.route(3, NONE);
        Check.due("the seams leave a room without", x.room(3, 3), NONE);
        x.seam(3, 2, 1, 1);
        Check.due("without one again", x.room(3, 3), 2);
    }

    private static void route() {
        Check.says("seam: the number of a seam that goes out from it, or NONE");
        SeamBeats x = new SeamBeats();
        Check.due("route(5, NONE) without seams", x.route(5, NONE), NONE);
        for (int i = 0; i < 8; i++) {
            int next = i;
            Check.outOfBounds(x, "route(5, " + i + ") before it is made", () -> x.route(5, next));
            x.seam(5, i % 5, 1, 1);
            Check.due("route(5, " + i + ")", x.route(5, i), i == 0 ? 0 : i - 1);
        }
        Check.outOfBounds(x, "route(5, 8)", () -> x.route(5, 8));
        Check.outOfBounds(x, "route(5, -2)", () -> x.route(5, -2));
        Check.badArgument(x, "route(4, 7)", () -> x.route(4, 7));
        Check.badArgument(x, "route(0, 0): it goes into the room", () -> x.route(0, 0));
        Check.outOfBounds(x, "route(6, 0): no room, and not from it", () -> x.route(6, 0));
        Check.due("route(5, NONE)", x.route(5, NONE), 7);
        Check.due("route(5, 0)", x.route(5, 0), NONE);
        Check.due("route(0, NONE)", x.route(0, NONE), NONE);
    }

    private static void put() {
        Check.says("Throws IllegalStateException if the queue has 8 items, or 999 items were put so far");
        SeamBeats x = new SeamBeats();
        for (int room = 0; room < 6; room++) {
            int of = room;
            for (int i = 0; i < 8; i++) {
                Check.due("put", x.put(room, i % 2 == 0 ? 0 : 99), 8 * room + i);
            }
            Check.badState(x, "put of a ninth", () -> x.put(of, 0));
            Check.badArgument(x, "put of a ninth, of the value 100", () -> x.put(of, 100));
            Check.badArgument(x, "put of a ninth, of the value -1", () -> x.put(of, -1));
        }
        Check.due("items", x.count(3), 48);
        // the limit of 999 items lies beyond 512 calls, and is tried by ItemsAndTicksTest
    }

    private static void run() {
        Check.says("ticks: 1 to 99");
        SeamBeats x = new SeamBeats();
        Check.due("run(1)", x.run(1), 0);
        Check.due("run(99)", x.run(99), 0);
        Check.due("the tick", x.count(0), 100);
        Check.badArgument(x, "run(0)", () -> x.run(0));
        Check.badArgument(x, "run(100)", () -> x.run(100));
        put(x, "0=1*8;1=2*8;2=3*8;3=4*8;4=5*8;5=6*8");
        Check.due("run(7)", x.run(7), 42);
        Check.due("run(1)", x.run(1), 6);
        Check.due("run(1) of nothing", x.run(1), 0);
        Check.due("saved states", x.count(11), 6);
        x.undo();
        x.undo();
        x.undo();
        Check.due("one call is undone at once", x.count(0), 100);
        Check.due("run(99)", x.run(99), 48);
    }

    private static void runUpTo9999() {
        Check.says("Throws IllegalStateException if the number of the tick would be above 9999");
        SeamBeats x = new SeamBeats();
        for (int i = 0; i < 100; i++) {
            x.run(99);
        }
        Check.due("the tick", x.count(0), 9900);
        Check.due("run(99) up to 9999", x.run(99), 0);
        Check.due("the tick", x.count(0), 9999);
        Check.badState(x, "run(1) up to 10000", () -> x.run(1));
        Check.badState(x, "run(99) at 9999", () -> x.run(99));
        Check.badArgument(x, "run(0) at 9999", () -> x.run(0));
        Check.badArgument(x, "run(100) at 9999", () -> x.run(100));
        x.undo();
        x.run(1);
        Check.badState(x, "run(99) at 9901", () -> x.run(99));
        Check.due("run(97) at 9901", x.run(97), 0);
        Check.badState(x, "run(2) at 9998", () -> x.run(2));
        Check.due("run(1) at 9998", x.run(1), 0);
        Check.due("the tick", x.count(0), 9999);
        Check.badState(x, "run(1) at 9999", () -> x.run(1));
    }

    private static void append() {
        Check.says("code: the character code, 33 to 126");
        SeamBeats x = new SeamBeats();
        Check.badArgument(x, "append(32)", () -> x.append(32));
        Check.badArgument(x, "append(127)", () -> x.append(127));
        Check.due("append(33)", x.append(33), 1);
        for (int i = 2; i <= 59; i++) {
            Check.due("append(126)", x.append(126), i);
        }
        Check.badArgument(x, "append(127) after 59", () -> x.append(127));
        Check.due("append(33) after 59", x.append(33), 60);
        Check.badState(x, "append(33) after 60", () -> x.append(33));
        Check.badState(x, "append(126) after 60", () -> x.append(126));
        Check.badArgument(x, "append(32) after 60", () -> x.append(32));
        Check.badArgument(x, "append(127) after 60", () -> x.append(127));
    }

    private static void clearBuffer() {
        Check.says("Returns the length that it had.");
        SeamBeats x = new SeamBeats();
        Check.due("of an empty one", x.clearBuffer(), 0);
        x.append('0');
        Check.due("of one character", x.clearBuffer(), 1);
        Check.due("again", x.clearBuffer(), 0);
        for (int i = 0; i < 60; i++) {
            x.append('0');
        }
        Check.due("of a full one", x.clearBuffer(), 60);
        Check.due("again", x.clearBuffer(), 0);
        Check.due("append after it", x.append('0'), 1);
        Check.due("nothing of the old text is left", x.firstError(), 1);
    }

    private static void firstError() {
        Check.says("Returns the index of the first character that is a syntax error; the length of the buffer if there"
            + " is none.");
        SeamBeats x = new SeamBeats();
        Check.due("of an empty one", x.firstError(), 0);
        x.append('6');
        Check.due("at the first character", x.firstError(), 0);
        x.append('=');
        Check.due("still there", x.firstError(), 0);
        x.clearBuffer();
        String good = "0=10*2;0=10*2;0=10*2;0=10*2;0=10*2;0=10*2;0=10*2;0=10*2;0=1*";
        for (int i = 0; i < 60; i++) {
            x.append(good.charAt(i));
            Check.due("after " + (i + 1) + " characters", x.firstError(), i + 1);
        }
        x.clearBuffer();
        Check.type(x, good.substring(0, 59) + "/");
        Check.due("at the last of 60 characters", x.firstError(), 59);
    }

    private static void putAllUpToEight() {
        Check.says("Throws IllegalStateException if a queue would have more than 8 items");
        SeamBeats x = new SeamBeats();
        put(x, "0=1*8;1=1*4;1=2*4;2=3*7;2=99");
        Check.due("items in the queue of the room 0", x.room(0, 4), 8);
        Check.due("items in the queue of the room 1", x.room(1, 4), 8);
        Check.due("items in the queue of the room 2", x.room(2, 4), 8);
        Check.due("the last one of the room 2", x.queue(2, 7, 1), 99);
        SeamBeats one = new SeamBeats();
        put(one, "5=7*7");
        put(one, "5=8");
        Check.due("7 and 1", one.room(5, 4), 8);
        Check.type(one, "5=9");
        Check.badState(one, "8 and 1", one::putAll);
        one.run(1);
        Check.due("8 and 1 when one is out", one.putAll(), 9);
    }

    private static void putAllOfNineOrMore() {
        Check.says("Throws IllegalStateException if a queue would have more than 8 items");
        String[] tooMany = {"0=1*8;0=1", "0=1;0=1*8", "0=1*5;1=1;0=1*4", "5=1*8;5=1*8", "0=1;1=2;2=3*8;2=3;3=4",
            "0=1*8;1=1*8;2=1*8;3=1*8;4=1*8;5=1*8;5=0"};
        for (String text : tooMany) {
            SeamBeats x = new SeamBeats();
            Check.type(x, text);
            Check.badState(x, "putAll() of " + text, x::putAll);
            Check.due("items", x.count(2), 0);
            Check.due("saved states", x.count(11), 0);
            Check.due("the buffer", x.clearBuffer(), text.length());
            x.clearBuffer();
            Check.type(x, text + ";");
            Check.badArgument(x, "putAll() of " + text + "; which is not complete either", x::putAll);
        }
    }

    private static void putAllOrNone() {
        Check.says("Puts the items in the buffer, one after the other, all or none, and clears the buffer. Undoable, as"
            + " one call. Returns how many items were put so far.");
        SeamBeats x = new SeamBeats();
        x.put(3, 9);
        Check.type(x, "3=1*2;0=5;3=2");
        Check.due("putAll()", x.putAll(), 5);
        long[][] want = {{0, 9}, {1, 1}, {2, 1}, {4, 2}};
        for (int place = 0; place < 4; place++) {
            Check.due("queue(3, " + place + ", 0)", x.queue(3, place, 0), want[place][0]);
            Check.due("queue(3, " + place + ", 1)", x.queue(3, place, 1), want[place][1]);
        }
        Check.due("queue(0, 0, 0)", x.queue(0, 0, 0), 3);
        Check.due("the buffer", x.clearBuffer(), 0);
        Check.badArgument(x, "putAll() of the buffer that it cleared", x::putAll);
        Check.due("undo()", x.undo(), 1);
        Check.due("all of them are undone", x.count(2), 1);
    }

    private static void undo() {
        Check.says("Returns how many saved states are left. Throws IllegalStateException if there is none");
        SeamBeats x = new SeamBeats();
        Check.badState(x, "undo() at first", x::undo);
        x.wake(0, false);
        Check.due("undo() of the only one", x.undo(), 0);
        Check.badState(x, "undo() after it", x::undo);
        for (int i = 0; i < 9; i++) {
            x.run(1);
        }
        for (int left = 5; left >= 0; left--) {
            Check.due("undo()", x.undo(), left);
            Check.due("the tick", x.count(0), 3 + left);
        }
        Check.badState(x, "undo() after six", x::undo);
        Check.due("the tick", x.count(0), 3);
    }

    private static void room() {
        Check.says("what: 0: its period; .. 10: the seam from which it took last, NONE without one");
        SeamBeats x = new SeamBeats();
        x.seam(5, 0, 1, 1);
        x.seam(0, 5, 1, 3);
        x.beat(5, 4, 3);
        put(x, "5=44*3;0=33");
        x.lose(5, 1);
        x.run(12);
        // room 5 loses its beat in the tick 3, hands in 7, and in 11, as room 0 took in 8
        // room 0 hands in the tick 0, and waits in 9, 10 and 11, as room 5 did not take from its seam so far
        long[] five = {4, 3, 1, 0, 1, 0, 1, 0, 0, NONE, NONE};
        long[] zero = {1, 0, 1, 1, 1, 0, 0, 3, 0, NONE, 0};
        for (int what = 0; what <= 10; what++) {
            Check.due("room(5, " + what + ")", x.room(5, what), five[what]);
            Check.due("room(0, " + what + ")", x.room(0, what), zero[what]);
        }
        Check.badArgument(x, "room(5, 11)", () -> x.room(5, 11));
        Check.badArgument(x, "room(5, -1)", () -> x.room(5, -1));
        Check.outOfBounds(x, "room(6, 11)", () -> x.room(6, 11));
        Check.outOfBounds(x, "room(-1, -1)", () -> x.room(-1, -1));
    }

    private static void roomWithout() {
        Check.says("its route, NONE without one; the value of the latest item that came out there, NONE without one; the"
            + " seam from which it took last, NONE without one");
        SeamBeats x = new SeamBeats();
        for (int what : new int[] {3, 9, 10}) {
            Check.due("room(1, " + what + ")", x.room(1, what), NONE);
        }
        x.seam(1, 0, 1, 1);
        Check.due("the route 0", x.room(1, 3), 0);
        x.put(1, 0);
        x.run(2);
        Check.due("taken from the seam 0", x.room(0, 10), 0);
        Check.due("in the room that handed it over", x.room(1, 10), NONE);
        x.run(1);
        Check.due("the value 0", x.room(0, 9), 0);
        Check.due("in the room that handed it over", x.room(1, 9), NONE);
    }

    private static void queue() {
        Check.says("place: its place, 0 to 7. Returns the property; NONE if there are not so many.");
        SeamBeats x = new SeamBeats();
        for (int items = 0; items <= 8; items++) {
            for (int place = 0; place <= 7; place++) {
                Check.due("the number at " + place + " of " + items, x.queue(5, place, 0), place < items ? place : NONE);
                Check.due("the value at " + place + " of " + items, x.queue(5, place, 1), place < items ? 0 : NONE);
            }
            if (items < 8) {
                x.put(5, 0);
            }
        }
        Check.badArgument(x, "queue(5, 8, 0)", () -> x.queue(5, 8, 0));
        Check.badArgument(x, "queue(5, -1, 0)", () -> x.queue(5, -1, 0));
        Check.badArgument(x, "queue(5, 0, 2)", () -> x.queue(5, 0, 2));
        Check.badArgument(x, "queue(5, 0, -1)", () -> x.queue(5, 0, -1));
        Check.outOfBounds(x, "queue(6, 8, 2)", () -> x.queue(6, 8, 2));
        x.run(1);
        Check.due("the first place when one is out", x.queue(5, 0, 0), 1);
        Check.due("the last place then", x.queue(5, 7, 0), NONE);
    }

    private static void seamOf() {
        Check.says("seam: its number; what: 0: the room from which it goes; .. 6: items that were handed over to it so far");
        SeamBeats x = new SeamBeats();
        for (int i = 0; i < 7; i++) {
            x.seam(4, 3, 1, 1);
        }
        Check.outOfBounds(x, "seamOf(7, 0) of seven", () -> x.seamOf(7, 0));
        x.seam(5, 0, 6, 3);
        put(x, "5=1*8");
        x.run(4);
        // the first of four items is taken in the tick 3, when its age is 3
        long[] last = {5, 0, 6, 3, 3, 0, 4};
        long[] first = {4, 3, 1, 1, 0, 0, 0};
        for (int what = 0; what <= 6; what++) {
            Check.due("seamOf(7, " + what + ")", x.seamOf(7, what), last[what]);
            Check.due("seamOf(0, " + what + ")", x.seamOf(0, what), first[what]);
        }
        x.run(4);
        put(x, "5=1*8");
        x.run(9);
        Check.due("more items than a queue can have, in all", x.seamOf(7, 6), 16);
        Check.outOfBounds(x, "seamOf(8, 0)", () -> x.seamOf(8, 0));
        Check.outOfBounds(x, "seamOf(-1, 0)", () -> x.seamOf(-1, 0));
        Check.outOfBounds(x, "seamOf(8, 7)", () -> x.seamOf(8, 7));
        Check.badArgument(x, "seamOf(7, 7)", () -> x.seamOf(7, 7));
        Check.badArgument(x, "seamOf(7, -1)", () -> x.seamOf(7, -1));
    }

    private static void onSeam() {
        Check.says("place: its place, 0 to 5, 0 for the first one. Returns the property; NONE if there are not so many.");
        SeamBeats x = new SeamBeats();
        x.seam(5, 4, 6, 3);
        x.wake(4, false);
        put(x, "5=0*8");
        for (int items = 0; items <= 6; items++) {
            for (int place = 0; place <= 5; place++) {
                String where = "at " + place + " of " + items;
                Check.due("the number " + where, x.onSeam(0, place, 0), place < items ? place : NONE);
                Check.due("the value " + where, x.onSeam(0, place, 1), place < items ? 0 : NONE);
                Check.due("the age " + where, x.onSeam(0, place, 2), place < items ? 0 : NONE);
            }
            x.run(1);
        }
        Check.badArgument(x, "onSeam(0, 6, 0)", () -> x.onSeam(0, 6, 0));
        Check.badArgument(x, "onSeam(0, -1, 0)", () -> x.onSeam(0, -1, 0));
        Check.badArgument(x, "onSeam(0, 0, 3)", () -> x.onSeam(0, 0, 3));
        Check.badArgument(x, "onSeam(0, 0, -1)", () -> x.onSeam(0, 0, -1));
        Check.outOfBounds(x, "onSeam(1, 6, 3)", () -> x.onSeam(1, 6, 3));
        Check.outOfBounds(x, "onSeam(-1, 0, 0)", () -> x.onSeam(-1, 0, 0));
        x.wake(4, true);
        x.run(3);
        Check.due("the first place when one is taken", x.onSeam(0, 0, 0), 1);
        Check.due("its age", x.onSeam(0, 0, 2), 3);
    }

    private static void countsAtFirst() {
        Check.says("7: the number of the latest item that came out, NONE without one");
        SeamBeats x = new SeamBeats();
        Check.due("at first", x.count(7), NONE);
        x.put(0, 0);
        Check.due("when one was put", x.count(7), NONE);
        x.run(1);
        Check.due("the item 0", x.count(7), 0);
        Check.due("the sum of the values, of the value 0", x.count(6), 0);
        Check.due("items that came out", x.count(5), 1);
        x.undo();
        Check.due("undone", x.count(7), NONE);
        Check.badArgument(x, "count(12)", () -> x.count(12));
        Check.badArgument(x, "count(-1)", () -> x.count(-1));
    }

    private static void countsAtTheLimits() {
        Check.says("what: 0: the number of the tick; 1: seams; .. 11: saved states");
        SeamBeats x = new SeamBeats();
        for (int i = 0; i < 6; i++) {
            x.seam(0, 1, 6, 3);
        }
        x.seam(0, 1, 6, 3);
        x.seam(2, 1, 6, 3);
        x.wake(1, false);
        put(x, "0=99*8;1=99*8;2=99*8;3=99*8;4=99*8;5=99*8");
        long[] full = {0, 8, 48, 48, 0, 0, 0, NONE, 0, 0, 61, 6};
        for (int what = 0; what <= 11; what++) {
            Check.due("count(" + what + ")", x.count(what), full[what]);
        }
        x.lose(2, 1);
        Check.due("24 come out of three rooms", x.run(99), 24);
        // room 0 hands 6 and then waits 93 times; room 2 loses a beat, hands 6 and then waits 92 times
        long[] then = {99, 8, 48, 12, 12, 24, 24 * 99, 47, 1, 185, 61, 6};
        for (int what = 0; what <= 11; what++) {
            Check.due("count(" + what + ") then", x.count(what), then[what]);
        }
    }

    private static void maskOfRooms() {
        Check.says("10: rooms that beat in the tick with the number of the tick, as a mask (a room that loses its beat"
            + " then does not beat)");
        for (int room = 0; room < 6; room++) {
            SeamBeats x = new SeamBeats();
            x.wake(room, false);
            Check.due("asleep: " + room, x.count(10), 63 - (1 << room));
            x.wake(room, true);
            x.lose(room, 1);
            Check.due("it loses its beat: " + room, x.count(10), 63 - (1 << room));
            x.run(1);
            Check.due("it has lost its beat: " + room, x.count(10), 63);
            x.beat(room, 2, 0);
            Check.due("in the tick 1: " + room, x.count(10), 63 - (1 << room));
            x.beat(room, 2, 1);
            Check.due("in the tick 1, with the phase 1: " + room, x.count(10), 63);
        }
        SeamBeats none = new SeamBeats();
        for (int room = 0; room < 6; room++) {
            none.wake(room, false);
        }
        Check.due("none", none.count(10), 0);
    }

    private static void ifRun() {
        Check.says("ticks: 0 to 300; what: 0: how many items come out in them; .. 4: beats that are lost in them");
        SeamBeats x = new SeamBeats();
        x.seam(0, 1, 2, 1);
        x.wake(1, false);
        put(x, "0=1*8;2=1*5;3=1*8");
        x.lose(2, 3);
        for (int i = 0; i < 2; i++) {
            x.lose(3, 20);
        }
        x.run(5);
        // so far: 2 out of room 2, 3 and 5 lost, room 0 has handed 2 and waited 3 times
        Check.due("out so far", x.count(5), 2);
        Check.due("lost so far", x.count(8), 8);
        Check.due("waits so far", x.count(9), 3);
        long[] none = {0, 6 + 3 + 8, 2, 0, 0};
        long[] one = {1, 6 + 2 + 8, 2, 1, 1};
        long[] many = {3, 6 + 8, 2, 35, 35};
        long[] next = {4, 6 + 7, 2, 36, 35};
        long[] most = {11, 6, 2, 300, 35};
        for (int what = 0; what <= 4; what++) {
            int of = what;
            Check.look(x, "ifRun(0, " + what + ")", none[what], () -> x.ifRun(0, of));
            Check.look(x, "ifRun(1, " + what + ")", one[what], () -> x.ifRun(1, of));
            Check.look(x, "ifRun(35, " + what + ")", many[what], () -> x.ifRun(35, of));
            Check.look(x, "ifRun(36, " + what + ")", next[what], () -> x.ifRun(36, of));
            Check.look(x, "ifRun(300, " + what + ")", most[what], () -> x.ifRun(300, of));
            Check.badArgument(x, "ifRun(-1, " + what + ")", () -> x.ifRun(-1, of));
            Check.badArgument(x, "ifRun(301, " + what + ")", () -> x.ifRun(301, of));
        }
        Check.badArgument(x, "ifRun(0, 5)", () -> x.ifRun(0, 5));
        Check.badArgument(x, "ifRun(300, -1)", () -> x.ifRun(300, -1));
    }

    /** With 74 beats to lose, the room 0 lets its first item out in the tick 4 * 74 + its phase. */
    private static void outInUpTo300() {
        Check.says("Returns how many ticks go by until it is out; NONE if that takes more than 300.");
        for (int phase = 0; phase < 4; phase++) {
            SeamBeats x = new SeamBeats();
            x.beat(0, 4, phase);
            for (int beats : new int[] {20, 20, 20, 14}) {
                x.lose(0, beats);
            }
            put(x, "0=1*2");
            Check.due("outIn(0), phase " + phase, x.outIn(0), 297 + phase);
            Check.due("outIn(1), phase " + phase, x.outIn(1), NONE);
            x.lose(0, 1);
            Check.due("outIn(0) with one more to lose, phase " + phase, x.outIn(0), NONE);
            x.run(1);
            Check.due("outIn(0) a tick later, phase " + phase, x.outIn(0), phase == 0 ? 300 : NONE);
            x.run(3);
            Check.due("outIn(0) three ticks later, phase " + phase, x.outIn(0), 297 + phase);
            Check.due("outIn(1) three ticks later, phase " + phase, x.outIn(1), NONE);
        }
    }

    private static void outInOfItems() {
        Check.says("item: the number of an item that was put; 0 if it is out");
        SeamBeats x = new SeamBeats();
        Check.outOfBounds(x, "outIn(0) of none", () -> x.outIn(0));
        x.put(5, 1);
        Check.due("outIn(0)", x.outIn(0), 1);
        Check.outOfBounds(x, "outIn(1) of one", () -> x.outIn(1));
        Check.outOfBounds(x, "outIn(-1) of one", () -> x.outIn(-1));
        x.run(1);
        Check.due("outIn(0) when it is out", x.outIn(0), 0);
        x.undo();
        Check.due("outIn(0) when it is in again", x.outIn(0), 1);
        x.undo();
        Check.outOfBounds(x, "outIn(0) when it is undone", () -> x.outIn(0));
        put(x, "4=1*8");
        for (int item = 0; item < 8; item++) {
            Check.due("outIn(" + item + ")", x.outIn(item), item + 1);
        }
        Check.outOfBounds(x, "outIn(8) of eight", () -> x.outIn(8));
        x.wake(4, false);
        Check.due("outIn(0) asleep", x.outIn(0), NONE);
    }

    private static void bestPhaseBelowThePeriod() {
        Check.says("Returns the phase, less than its period, of several the lowest one");
        for (int period = 1; period <= 4; period++) {
            for (int phase = 0; phase < period; phase++) {
                SeamBeats x = new SeamBeats();
                x.beat(2, period, phase);
                Check.due("of nothing, period " + period, x.bestPhase(2), 0);
                put(x, "2=1*2");
                Check.due("all are as good, period " + period, x.bestPhase(2), 0);
                x.wake(2, false);
                Check.due("asleep, period " + period, x.bestPhase(2), 0);
            }
            // so many beats to lose that only the phases with the most beats in the 40 ticks let the item out
            for (int ticks = 0; ticks < period; ticks++) {
                SeamBeats y = new SeamBeats();
                y.beat(2, period, 0);
                if (ticks > 0) {
                    y.run(ticks);
                }
                y.put(2, 1);
                int toLose = (40 - 1) / period;
                for (int left = toLose; left > 0; left -= 20) {
                    y.lose(2, Math.min(20, left));
                }
                int best = 40 % period == 0 ? 0 : firstOf(ticks, ticks + 40 % period, period);
                Check.due("period " + period + ", tick " + ticks, y.bestPhase(2), best);
            }
        }
    }

    /** The lowest phase of the ticks from start to before end. */
    private static int firstOf(int start, int end, int period) {
        int lowest = period;
        for (int tick = start; tick < end; tick++) {
            lowest = Math.min(lowest, tick % period);
        }
        return lowest;
    }

    private static void bestPhaseIn40Ticks() {
        Check.says("in 40 ticks from now on");
        SeamBeats all = new SeamBeats();
        all.beat(0, 4, 1);
        all.put(0, 1);
        all.lose(0, 9);
        Check.due("ticks 0 to 39: all phases have 10 beats, and 9 to lose", all.bestPhase(0), 0);
        all.run(1);
        Check.due("ticks 1 to 40: all phases have 10 beats, and 9 to lose", all.bestPhase(0), 0);
        SeamBeats last = new SeamBeats();
        last.beat(1, 3, 0);
        last.put(1, 1);
        last.lose(1, 13);
        Check.due("ticks 0 to 39: the phase 0 alone has 14 beats, and 13 to lose", last.bestPhase(1), 0);
        last.beat(1, 3, 2);
        last.run(1);
        Check.due("ticks 1 to 40: the phase 1 alone has 14 beats", last.bestPhase(1), 1);
        last.run(1);
        Check.due("ticks 2 to 41: the phase 2 alone has 14 beats", last.bestPhase(1), 2);
        last.lose(1, 1);
        Check.due("ticks 2 to 41: none has 15 beats", last.bestPhase(1), 0);
    }

    private static void bestPhaseOfAllRooms() {
        Check.says("with which most items would come out, of all rooms");
        // each phase of room 0 has its tenth beat in the 40 ticks, and hands the item over then; it comes out of
        // room 1 a tick later, which is too late with the phase that comes last
        int[] best = {0, 1, 0, 0};
        for (int tick = 0; tick < best.length; tick++) {
            SeamBeats x = new SeamBeats();
            if (tick > 0) {
                x.run(tick);
            }
            x.seam(0, 1, 6, 1);
            x.beat(0, 4, 3);
            x.lose(0, 9);
            x.put(0, 1);
            x.put(5, 1);
            Check.due("at the tick " + tick, x.bestPhase(0), best[tick]);
            for (int phase = 0; phase < 4; phase++) {
                x.beat(0, 4, phase);
                Check.due("its phase does not matter", x.bestPhase(0), best[tick]);
                Check.due("what comes out, phase " + phase, x.ifRun(40, 0), phase == (tick + 3) % 4 ? 1 : 2);
                Check.due("what comes out a tick later, phase " + phase, x.ifRun(41, 0), 2);
            }
        }
    }

    private static void slowest() {
        Check.says("Returns the room with the most waits so far, of several the lowest number; NONE if no room waited.");
        SeamBeats x = new SeamBeats();
        Check.due("at first", x.slowest(), NONE);
        for (int room = 0; room < 5; room++) {
            x.seam(room, 5, 1, 1);
        }
        x.wake(5, false);
        put(x, "0=1*2;4=1*2;2=1*2");
        x.run(1);
        Check.due("when no room waited", x.slowest(), NONE);
        x.lose(0, 2);
        x.run(1);
        Check.due("2 and 4 once", x.slowest(), 2);
        x.lose(2, 2);
        x.run(1);
        Check.due("2 once, 4 twice", x.slowest(), 4);
        x.run(1);
        Check.due("0 once, 2 once, 4 three times", x.slowest(), 4);
        x.wake(4, false);
        x.run(1);
        x.run(1);
        Check.due("0 and 2 and 4 three times", x.slowest(), 0);
        Check.due("waits of the room 2", x.room(2, 7), 3);
        Check.due("waits of the room 4", x.room(4, 7), 3);
        x.wake(4, true);
        x.wake(0, false);
        x.run(1);
        Check.due("2 and 4 four times", x.slowest(), 2);
        SeamBeats last = new SeamBeats();
        last.seam(5, 0, 1, 3);
        put(last, "5=1*2");
        last.run(2);
        Check.due("the room 5", last.slowest(), 5);
    }

    private static void outShare() {
        Check.says("Returns count(5), as a double, divided by count(2); 1.0 if that is 0.");
        SeamBeats x = new SeamBeats();
        Check.dueDouble("of no items", x.outShare(), 1.0);
        put(x, "0=1*3");
        Check.dueDouble("none of 3", x.outShare(), 0.0);
        for (int out = 1; out <= 3; out++) {
            x.run(1);
            Check.dueDouble(out + " of 3", x.outShare(), out / 3.0);
        }
        x.put(0, 1);
        Check.dueDouble("3 of 4", x.outShare(), 0.75);
        SeamBeats one = new SeamBeats();
        one.put(0, 1);
        Check.dueDouble("none of 1", one.outShare(), 0.0);
        one.undo();
        Check.dueDouble("of no items again", one.outShare(), 1.0);
    }

    private static void limitOfTicksDoesNotMatter() {
        Check.says("what would be; nothing is changed, and the limit of ticks does not matter");
        SeamBeats x = new SeamBeats();
        for (int i = 0; i < 101; i++) {
            x.run(99);
        }
        x.beat(0, 4, 2);
        x.beat(1, 4, 0);
        x.seam(0, 1, 1, 1);
        put(x, "0=1;1=1*8");
        Check.badState(x, "run(1)", () -> x.run(1));
        // 9999 is 3 modulo 4: room 1 beats in the ticks 10000, 10004, .., room 0 hands in 10002
        Check.look(x, "ifRun(1, 0)", 0, () -> x.ifRun(1, 0));
        Check.look(x, "ifRun(2, 0)", 1, () -> x.ifRun(2, 0));
        Check.look(x, "ifRun(300, 0)", 9, () -> x.ifRun(300, 0));
        Check.look(x, "outIn(1)", 2, () -> x.outIn(1));
        Check.look(x, "outIn(0)", 2 + 4 * 8, () -> x.outIn(0));
        Check.look(x, "bestPhase(0)", 0, () -> x.bestPhase(0));
        Check.look(x, "bestPhase(1)", bestOfRoom1(), () -> x.bestPhase(1));
        Check.due("digest()", x.digest(), ProspectsTest.digestByCalls(x, ""));
        Check.due("the tick", x.count(0), 9999);
    }

    /** The same at the tick 3, which is 3 modulo 4 too, where it can be run. */
    private static int bestOfRoom1() {
        int best = 0;
        int most = -1;
        for (int phase = 0; phase < 4; phase++) {
            SeamBeats x = new SeamBeats();
            x.run(3);
            x.beat(0, 4, 2);
            x.beat(1, 4, phase);
            x.seam(0, 1, 1, 1);
            put(x, "0=1;1=1*8");
            int out = x.run(40);
            if (out > most) {
                most = out;
                best = phase;
            }
        }
        return best;
    }

    private static void digestAtTheLimits() {
        Check.says("The hash starts at 2689. For each value v of the following list, in order, the hash becomes"
            + " 31 * hash + v, in long arithmetic with overflow.");
        String[] buffers = {"", "0=1;", "0=10;1=11;2=12;3=13;4=14;5=15;0=16;1=17;2=18;3=19;4=20;5=2*2"};
        Scene[] scenes = {Scene.NEW, Scene.SOME_OF_ALL, Scene.ALL_FULL};
        for (int i = 0; i < scenes.length; i++) {
            Check.due("digest() of " + scenes[i], scenes[i].make().digest(),
                ProspectsTest.digestByCalls(scenes[i].make(), buffers[i]));
        }
        SeamBeats few = new SeamBeats();
        few.put(0, 1);
        Check.due("digest() of the item 0 alone", few.digest(), ProspectsTest.digestByCalls(few, ""));
        few.put(0, 2);
        few.run(1);
        Check.due("digest() of the share 0.5", few.digest(), ProspectsTest.digestByCalls(few, ""));
        few.run(1);
        Check.due("digest() of the share 1.0", few.digest(), ProspectsTest.digestByCalls(few, ""));
        SeamBeats x = new SeamBeats();
        for (int i = 0; i < 8; i++) {
            x.seam(i % 5, 5, 6, 1 + i % 3);
        }
        x.wake(5, false);
        for (int round = 0; round < 2; round++) {
            put(x, "0=1*8;1=22*8;2=33*8;3=99*8;4=0*8");
            x.run(8);
            Check.due("digest() of full seams", x.digest(), ProspectsTest.digestByCalls(x, ""));
            for (int room = 0; room < 5; room++) {
                x.route(room, NONE);
            }
            x.run(8);
            Check.due("digest() of full seams and empty queues", x.digest(), ProspectsTest.digestByCalls(x, ""));
            for (int room = 0; room < 3; room++) {
                x.route(room, room + 5);
            }
        }
        Check.due("items on seams", x.count(4), 8 * 6);
        x.append('~');
        Check.due("digest() with a character", x.digest(), ProspectsTest.digestByCalls(x, "~"));
    }
}
