/**
 * What stands under "Terms" in the document: each sentence that names a limit, at the last value that is allowed
 * and at the first one that is not.
 */
public final class TermsBoundsTest {
    private static final int NONE = SeamBeats.NONE;

    private interface OfRoom {
        long on(SeamBeats x, int room);
    }

    public static void main(String[] args) {
        sixRooms();
        roomsAtFirst();
        periodsAndPhases();
        queueOfEight();
        eightSeams();
        seamsBetweenTwoRooms();
        sizesOfSeams();
        crossings();
        orderOnSeams();
        agesUpToTheCrossing();
        itemsByNumberAndValue();
        tickAtFirst();
        ascendingNumbers();
        beatsByPeriodAndPhase();
        beatsAtTheLastTicks();
        beatsToLose();
        lostBeatIsNoBeat();
        handingOfAnEmptyQueue();
        handingToASeamWithRoom();
        growingOfSeamsIntoTheRoom();
        takingUpToEight();
        takingOneBehindAllOthers();
        takingOfRipeFirstItems();
        turnFromTheHighestBackToTheLowest();
        everyTurn();
        growingInTheSameTick();
        sixtyCharacters();
        oneOrMoreParts();
        numbersInTexts();
        errorsWhateverTheLength();
        undoOfWhatChangesNothing();
        undoOfAllButTheBuffer();
        undoneSeamsLeaveNothing();
        sixSavedStates();
        oldestStateGoesFirst();
        Check.end();
    }

    private static void put(SeamBeats x, String items) {
        Check.type(x, items);
        x.putAll();
    }

    // ---- rooms, seams, items

    private static void sixRooms() {
        Check.says("There are 6 rooms, numbered from 0.");
        String[] names = {"beat", "wake", "lose", "seam from", "seam to", "route", "put", "room", "queue", "bestPhase"};
        OfRoom[] calls = {(x, r) -> x.beat(r, 1, 0), (x, r) -> x.wake(r, true), (x, r) -> x.lose(r, 1),
            (x, r) -> x.seam(r, 2, 1, 1), (x, r) -> x.seam(2, r, 1, 1), (x, r) -> x.route(r, NONE),
            (x, r) -> x.put(r, 0), (x, r) -> x.room(r, 0), (x, r) -> x.queue(r, 0, 0), (x, r) -> x.bestPhase(r)};
        for (int i = 0; i < calls.length; i++) {
            OfRoom call = calls[i];
            SeamBeats x = new SeamBeats();
            Check.dueTrue(names[i] + " of the room 0", Check.outcome(() -> call.on(x, 0)).matches("-?[0-9]+"));
            Check.dueTrue(names[i] + " of the room 5", Check.outcome(() -> call.on(x, 5)).matches("-?[0-9]+"));
            Check.outOfBounds(x, names[i] + " of the room -1", () -> call.on(x, -1));
            Check.outOfBounds(x, names[i] + " of the room 6", () -> call.on(x, 6));
        }
    }

    private static void roomsAtFirst() {
        Check.says("a period, 1 to 4, at first 1, and a phase, at first 0; it is awake, at first; a queue, at first"
            + " empty; and a route, at first none");
        SeamBeats x = new SeamBeats();
        long[] first = {1, 0, 1, NONE, 0};
        for (int room = 0; room < 6; room++) {
            for (int what = 0; what < first.length; what++) {
                Check.due("room(" + room + ", " + what + ")", x.room(room, what), first[what]);
            }
        }
    }

    private static void periodsAndPhases() {
        Check.says("A room has a period, 1 to 4, and a phase, 0 to 3, less than its period");
        SeamBeats x = new SeamBeats();
        for (int period = 1; period <= 4; period++) {
            int of = period;
            x.beat(5, period, 0);
            x.beat(5, period, period - 1);
            Check.due("the period", x.room(5, 0), period);
            Check.due("the greatest phase", x.room(5, 1), period - 1);
            Check.badArgument(x, "a phase as great as the period " + period, () -> x.beat(5, of, of));
            Check.badArgument(x, "a phase of -1", () -> x.beat(5, of, -1));
        }
        Check.badArgument(x, "the period 0", () -> x.beat(5, 0, 0));
        Check.badArgument(x, "the period 5", () -> x.beat(5, 5, 0));
        Check.badArgument(x, "the phase 4", () -> x.beat(5, 4, 4));
    }

    private static void queueOfEight() {
        Check.says("it has a queue of at most 8 items");
        SeamBeats x = new SeamBeats();
        put(x, "2=1*7");
        Check.due("put of the eighth", x.put(2, 8), 7);
        Check.due("items", x.room(2, 4), 8);
        Check.badState(x, "put of the ninth", () -> x.put(2, 9));
        Check.due("another room has its own queue", x.put(3, 9), 8);
        x.run(1);
        Check.due("put when one is out", x.put(2, 10), 9);
        Check.badState(x, "put of the ninth again", () -> x.put(2, 9));
    }

    private static void eightSeams() {
        Check.says("There are at most 8 seams, numbered from 0 in the order in which they were made.");
        SeamBeats x = new SeamBeats();
        for (int i = 0; i < 8; i++) {
            int next = i;
            Check.outOfBounds(x, "seamOf(" + i + ", 0) before it is made", () -> x.seamOf(next, 0));
            Check.due("the seam " + i, x.seam((5 + i) % 6, i % 6, 1, 1), i);
            Check.due("seamOf(" + i + ", 0)", x.seamOf(i, 0), (5 + i) % 6);
            Check.due("count(1)", x.count(1), i + 1);
        }
        Check.badState(x, "the ninth seam", () -> x.seam(0, 1, 1, 1));
        x.undo();
        Check.outOfBounds(x, "seamOf(7, 0) when it is undone", () -> x.seamOf(7, 0));
        Check.due("the eighth seam again", x.seam(3, 2, 1, 1), 7);
        Check.badState(x, "the ninth seam again", () -> x.seam(0, 1, 1, 1));
    }

    private static void seamsBetweenTwoRooms() {
        Check.says("A seam goes from a room to another one");
        for (int room = 0; room < 6; room++) {
            int of = room;
            SeamBeats x = new SeamBeats();
            Check.badArgument(x, "a seam from " + room + " to itself", () -> x.seam(of, of, 1, 1));
            for (int other = 0; other < 6; other++) {
                if (other != room) {
                    x.seam(room, other, 1, 1);
                    Check.due("its end", x.seamOf(x.count(1) - 1, 1), other);
                }
            }
        }
    }

    private static void sizesOfSeams() {
        Check.says("it has room for 1 to 6 items");
        SeamBeats none = new SeamBeats();
        Check.badArgument(none, "room for 0 items", () -> none.seam(0, 1, 0, 1));
        Check.badArgument(none, "room for 7 items", () -> none.seam(0, 1, 7, 1));
        for (int size = 1; size <= 6; size++) {
            SeamBeats x = new SeamBeats();
            x.seam(0, 1, size, 1);
            x.wake(1, false);
            put(x, "0=3*8");
            x.run(size);
            Check.due("items on a seam of the size " + size, x.seamOf(0, 4), size);
            Check.due("waits", x.room(0, 7), 0);
            x.run(1);
            Check.due("items a tick later", x.seamOf(0, 4), size);
            Check.due("items that were handed over", x.seamOf(0, 6), size);
            Check.due("waits a tick later", x.room(0, 7), 1);
            Check.due("items in the queue", x.room(0, 4), 8 - size);
        }
    }

    private static void crossings() {
        Check.says("and a crossing, 1 to 3");
        SeamBeats none = new SeamBeats();
        Check.badArgument(none, "the crossing 0", () -> none.seam(0, 1, 1, 0));
        Check.badArgument(none, "the crossing 4", () -> none.seam(0, 1, 1, 4));
        for (int crossing = 1; crossing <= 3; crossing++) {
            SeamBeats up = new SeamBeats();
            up.seam(0, 1, 6, crossing);
            up.put(0, 1);
            for (int tick = 1; tick < crossing; tick++) {
                up.run(1);
                Check.due("upwards, age in the tick " + tick, up.onSeam(0, 0, 2), tick);
                Check.due("upwards, ripe", up.seamOf(0, 5), 0);
                Check.due("upwards, taken", up.room(1, 4), 0);
            }
            up.run(1);
            Check.due("upwards, taken after the crossing " + crossing, up.room(1, 4), 1);
            Check.due("upwards, on the seam", up.seamOf(0, 4), 0);
            SeamBeats down = new SeamBeats();
            down.seam(1, 0, 6, crossing);
            down.put(1, 1);
            for (int tick = 0; tick < crossing; tick++) {
                down.run(1);
                Check.due("downwards, age after the tick " + tick, down.onSeam(0, 0, 2), tick);
                Check.due("downwards, ripe", down.seamOf(0, 5), 0);
                Check.due("downwards, taken", down.room(0, 4), 0);
            }
            down.run(1);
            Check.due("downwards, taken after the crossing " + crossing, down.room(0, 4), 1);
        }
    }

    private static void orderOnSeams() {
        Check.says("Its items lie in the order in which they were handed over");
        SeamBeats x = new SeamBeats();
        x.seam(2, 4, 6, 1);
        x.wake(4, false);
        x.put(3, 50);
        put(x, "2=60;2=61;2=62;2=63;2=64;2=65;2=66");
        x.run(7);
        for (int place = 0; place < 6; place++) {
            Check.due("the number at the place " + place, x.onSeam(0, place, 0), place + 1);
            Check.due("the value at the place " + place, x.onSeam(0, place, 1), 60 + place);
        }
        x.wake(4, true);
        x.run(1);
        Check.due("the first one is taken first", x.queue(4, 0, 0), 1);
        Check.due("the others move up", x.onSeam(0, 0, 0), 2);
        Check.due("to the last place", x.onSeam(0, 4, 0), 6);
        Check.due("and leave one", x.onSeam(0, 5, 0), NONE);
        x.run(1);
        Check.due("the last one is handed over behind them", x.onSeam(0, 4, 0), 7);
    }

    /** Room 1, whose queue is full and whose seam is too, lets items grow, but takes none. */
    private static SeamBeats takesNone(int crossing) {
        SeamBeats x = new SeamBeats();
        x.seam(1, 2, 1, 1);
        x.wake(2, false);
        put(x, "1=9*8");
        x.run(1);
        x.put(1, 9);
        x.seam(0, 1, 3, crossing);
        return x;
    }

    private static void agesUpToTheCrossing() {
        Check.says("each has an age, which is at most the crossing; an item is ripe if its age is the crossing");
        for (int crossing = 1; crossing <= 3; crossing++) {
            SeamBeats x = takesNone(crossing);
            put(x, "0=1*3");
            for (int ticks = 1; ticks <= 7; ticks++) {
                x.run(1);
                int ripe = 0;
                for (int place = 0; place < 3; place++) {
                    int age = place < ticks ? Math.min(ticks - place, crossing) : NONE;
                    ripe += age == crossing ? 1 : 0;
                    Check.due("crossing " + crossing + ", tick " + ticks + ", place " + place,
                        x.onSeam(1, place, 2), age);
                }
                Check.due("crossing " + crossing + ", tick " + ticks + ", ripe", x.seamOf(1, 5), ripe);
            }
        }
    }

    private static void itemsByNumberAndValue() {
        Check.says("Items are numbered from 0 in the order in which they were put; an item has a value, 0 to 99.");
        SeamBeats x = new SeamBeats();
        Check.outOfBounds(x, "outIn(0)", () -> x.outIn(0));
        Check.due("the first one", x.put(5, 0), 0);
        Check.due("the second one", x.put(0, 99), 1);
        put(x, "3=99*2;1=0");
        Check.due("the value 0", x.queue(5, 0, 1), 0);
        Check.due("the value 99", x.queue(0, 0, 1), 99);
        Check.due("in the order of the text", x.queue(3, 0, 0), 2);
        Check.due("in the order of the text", x.queue(3, 1, 0), 3);
        Check.due("in the order of the text", x.queue(1, 0, 0), 4);
        Check.badArgument(x, "the value -1", () -> x.put(0, -1));
        Check.badArgument(x, "the value 100", () -> x.put(0, 100));
        Check.due("the next one", x.put(4, 1), 5);
    }

    // ---- ticks

    private static void tickAtFirst() {
        Check.says("There is a number of the tick, at first 0.");
        SeamBeats x = new SeamBeats();
        Check.due("at first", x.count(0), 0);
        x.beat(0, 4, 0);
        x.put(0, 1);
        Check.due("a room with the phase 0 beats in the first tick", x.run(1), 1);
        Check.due("then", x.count(0), 1);
    }

    private static void ascendingNumbers() {
        Check.says("In a tick, each room that beats, by ascending numbers, does this; then the number of the tick"
            + " becomes 1 more.");
        SeamBeats x = new SeamBeats();
        put(x, "5=5;4=4;3=3;2=2;1=1;0=0");
        Check.due("all six come out in one tick", x.run(1), 6);
        Check.due("the latest one is that of the room 5, the item 0", x.count(7), 0);
        Check.due("the tick", x.count(0), 1);
        put(x, "5=5;0=0");
        x.wake(5, false);
        x.run(1);
        Check.due("the latest one is that of the room 0, the item 7", x.count(7), 7);
        // along a chain upwards an item goes one seam in a tick, as handing goes before taking
        SeamBeats chain = new SeamBeats();
        for (int room = 0; room < 5; room++) {
            chain.seam(room, room + 1, 1, 1);
        }
        chain.put(0, 1);
        for (int room = 1; room <= 5; room++) {
            chain.run(1);
            Check.due("the item is in the room " + room, chain.room(room, 4), 1);
        }
        Check.due("and then out", chain.run(1), 1);
    }

    private static void beatsByPeriodAndPhase() {
        Check.says("A room beats in a tick, if it is awake, the number of the tick modulo its period is its phase");
        for (int period = 1; period <= 4; period++) {
            for (int phase = 0; phase < period; phase++) {
                SeamBeats x = new SeamBeats();
                x.beat(5, period, phase);
                beatsFor(x, period, phase, 13);
                x.wake(5, false);
                for (int tick = 0; tick < 5; tick++) {
                    Check.due("count(10) asleep", x.count(10), 31);
                    Check.due("asleep", x.run(1), 0);
                }
                x.wake(5, true);
                beatsFor(x, period, phase, 5);
            }
        }
    }

    /** The room 5 lets its item out in those ticks alone in which it beats. */
    private static void beatsFor(SeamBeats x, int period, int phase, int ticks) {
        for (int i = 0; i < ticks; i++) {
            int tick = x.count(0);
            boolean isBeat = tick % period == phase;
            if (x.room(5, 4) == 0) {
                x.put(5, 1);
            }
            String where = "period " + period + ", phase " + phase + ", tick " + tick;
            Check.due("count(10), " + where, x.count(10), isBeat ? 63 : 31);
            Check.due("run(1), " + where, x.run(1), isBeat ? 1 : 0);
        }
    }

    private static void beatsAtTheLastTicks() {
        Check.says("the number of the tick modulo its period is its phase");
        for (int period = 3; period <= 4; period++) {
            for (int phase = 0; phase < period; phase++) {
                SeamBeats x = new SeamBeats();
                x.beat(5, period, phase);
                for (int i = 0; i < 100; i++) {
                    x.run(99);
                }
                x.run(90);
                beatsFor(x, period, phase, 9);
                Check.due("the last tick", x.count(0), 9999);
                int next = (phase + period - 9999 % period) % period + 1;
                Check.due("outIn(the last item)", x.room(5, 4) == 0 ? next : x.outIn(x.count(2) - 1), next);
            }
        }
    }

    private static void beatsToLose() {
        Check.says("a room that would beat, but has a beat to lose, has one fewer to lose then, and does nothing");
        SeamBeats one = new SeamBeats();
        one.put(0, 1);
        one.lose(0, 1);
        Check.due("the only one to lose", one.run(1), 0);
        Check.due("none is left", one.room(0, 5), 0);
        Check.due("lost so far", one.room(0, 6), 1);
        Check.due("the next beat", one.run(1), 1);
        Check.due("lost so far, still", one.room(0, 6), 1);
        SeamBeats most = new SeamBeats();
        most.put(0, 1);
        for (int i = 0; i < 4; i++) {
            most.lose(0, 20);
        }
        most.lose(0, 19);
        Check.due("99 to lose", most.run(99), 0);
        Check.due("lost so far", most.room(0, 6), 99);
        Check.due("none is left", most.room(0, 5), 0);
        Check.due("the next beat", most.run(1), 1);
        SeamBeats none = new SeamBeats();
        none.lose(0, 2);
        none.beat(0, 2, 1);
        none.run(1);
        Check.due("a room that would not beat loses none", none.room(0, 5), 2);
        none.run(1);
        Check.due("a room that would beat loses one", none.room(0, 5), 1);
        none.wake(0, false);
        none.run(4);
        Check.due("a room asleep loses none", none.room(0, 5), 1);
        Check.due("lost so far", none.room(0, 6), 1);
    }

    private static void lostBeatIsNoBeat() {
        Check.says("and does nothing");
        SeamBeats x = new SeamBeats();
        x.seam(1, 2, 1, 1);
        x.seam(0, 1, 1, 2);
        x.wake(2, false);
        put(x, "1=1*2;0=5");
        x.run(1);
        x.lose(1, 1);
        Check.due("the age before it", x.onSeam(1, 0, 2), 1);
        x.run(1);
        Check.due("it does not wait", x.room(1, 7), 0);
        Check.due("its items do not grow", x.onSeam(1, 0, 2), 1);
        Check.due("it takes none", x.room(1, 4), 1);
        x.run(1);
        Check.due("then it waits", x.room(1, 7), 1);
        Check.due("and takes", x.room(1, 4), 2);
    }

    private static void handingOfAnEmptyQueue() {
        Check.says("Handing: if its queue is not empty");
        SeamBeats x = new SeamBeats();
        x.seam(0, 1, 1, 1);
        x.wake(1, false);
        x.put(0, 1);
        x.run(1);
        x.run(3);
        Check.due("an empty queue before a full seam: no wait", x.room(0, 7), 0);
        x.route(0, NONE);
        Check.due("an empty queue without a route: none comes out", x.run(3), 0);
        Check.due("the value of the latest one", x.room(0, 9), NONE);
        x.put(0, 0);
        Check.due("a queue with one item, without a route", x.run(1), 1);
        x.route(0, 0);
        x.put(0, 1);
        x.run(1);
        Check.due("a queue with one item before a full seam: a wait", x.room(0, 7), 1);
    }

    private static void handingToASeamWithRoom() {
        Check.says("with one, its first item goes behind all items of this seam, with the age 0, if the seam has room;"
            + " otherwise the room waits");
        SeamBeats down = new SeamBeats();
        down.seam(1, 0, 1, 1);
        put(down, "1=1*3");
        down.run(3);
        Check.due("room 0 makes room before room 1 hands: waits", down.room(1, 7), 0);
        Check.due("room 0 makes room before room 1 hands: handed over", down.seamOf(0, 6), 3);
        SeamBeats up = new SeamBeats();
        up.seam(0, 1, 1, 2);
        put(up, "0=1*3");
        up.run(2);
        Check.due("room 0 hands before room 1 makes room: waits", up.room(0, 7), 1);
        Check.due("room 0 hands before room 1 makes room: on the seam", up.seamOf(0, 4), 0);
        up.run(1);
        Check.due("then it has room: waits", up.room(0, 7), 1);
        Check.due("then it has room: handed over", up.seamOf(0, 6), 2);
        SeamBeats last = new SeamBeats();
        last.seam(3, 2, 2, 3);
        put(last, "3=7;3=8");
        last.run(2);
        Check.due("the last place: the age of the first one", last.onSeam(0, 0, 2), 1);
        Check.due("the last place: the age of the second one", last.onSeam(0, 1, 2), 0);
        last.run(5);
        Check.due("both are taken", last.seamOf(0, 4), 0);
        last.put(3, 9);
        last.run(1);
        Check.due("a place that was left: the age", last.onSeam(0, 0, 2), 0);
        Check.due("a place that was left: the value", last.onSeam(0, 0, 1), 9);
    }

    private static void growingOfSeamsIntoTheRoom() {
        Check.says("Growing: the age of each item of each seam into this room becomes 1 more");
        SeamBeats x = new SeamBeats();
        x.seam(1, 0, 6, 3);
        x.seam(2, 0, 6, 3);
        x.seam(0, 3, 6, 3);
        x.wake(0, false);
        x.wake(3, false);
        put(x, "1=1*2;2=2*2");
        x.run(2);
        x.put(0, 9);
        x.wake(0, true);
        x.run(1);
        for (int seam = 0; seam < 2; seam++) {
            for (int place = 0; place < 2; place++) {
                Check.due("onSeam(" + seam + ", " + place + ", 2)", x.onSeam(seam, place, 2), 1);
            }
        }
        Check.due("a seam out of the room", x.onSeam(2, 0, 2), 0);
    }

    private static void takingUpToEight() {
        Check.says("Taking: if its queue has fewer than 8 items, it takes one item");
        SeamBeats x = takesNone(1);
        x.undo();
        x.undo();
        x.seam(0, 1, 6, 1);
        put(x, "0=1*3");
        Check.due("7 items in the queue", x.room(1, 4), 7);
        x.run(1);
        Check.due("taken as the eighth", x.queue(1, 7, 1), 1);
        Check.due("the seam is empty", x.seamOf(1, 4), 0);
        x.run(1);
        Check.due("8 items: none is taken", x.room(1, 4), 8);
        Check.due("though one is ripe", x.seamOf(1, 5), 1);
        Check.due("from which it took last", x.room(1, 10), 1);
        x.route(1, NONE);
        Check.due("8 items, of which one goes first", x.run(1), 1);
        Check.due("so one is taken", x.room(1, 4), 8);
        Check.due("the one handed over last stays", x.seamOf(1, 4), 1);
    }

    private static void takingOneBehindAllOthers() {
        Check.says("The item goes behind all others of its queue.");
        SeamBeats x = new SeamBeats();
        x.seam(0, 1, 6, 1);
        x.seam(2, 1, 6, 1);
        x.beat(1, 4, 3);
        put(x, "0=10*3;2=20*3;1=30*3");
        x.run(4);
        long[] want = {30, 30, 10, NONE};
        for (int place = 0; place < want.length; place++) {
            Check.due("queue(1, " + place + ", 1)", x.queue(1, place, 1), want[place]);
        }
        Check.due("only one is taken in a beat", x.count(4), 5);
        SeamBeats empty = new SeamBeats();
        empty.seam(0, 1, 6, 1);
        empty.put(0, 4);
        empty.run(1);
        Check.due("behind none", empty.queue(1, 0, 1), 4);
    }

    private static void takingOfRipeFirstItems() {
        Check.says("of the seams into it whose first item is ripe");
        SeamBeats x = new SeamBeats();
        x.seam(0, 5, 6, 3);
        x.seam(1, 5, 6, 2);
        x.seam(2, 4, 6, 1);
        put(x, "0=10;1=20;2=30");
        x.wake(4, false);
        x.run(1);
        Check.due("none is ripe", x.room(5, 4), 0);
        Check.due("from which it took last", x.room(5, 10), NONE);
        x.run(1);
        Check.due("the seam 1 is ripe", x.queue(5, 0, 1), 20);
        x.run(1);
        Check.due("the seam 0 is ripe", x.queue(5, 0, 1), 10);
        x.run(3);
        Check.due("the seam 2 goes to another room", x.seamOf(2, 4), 1);
        Check.due("and does not grow", x.onSeam(2, 0, 2), 0);
    }

    /** Eight seams into the room 5, which sleeps; the routes are changed as it needs. */
    private static SeamBeats eightInto5() {
        SeamBeats x = new SeamBeats();
        for (int seam = 0; seam < 8; seam++) {
            x.seam(seam % 5, 5, 6, 1);
        }
        x.wake(5, false);
        return x;
    }

    private static void layOn(SeamBeats x, int seam) {
        x.route(seam % 5, seam);
        x.put(seam % 5, seam);
        x.run(1);
    }

    private static void turnFromTheHighestBackToTheLowest() {
        Check.says("the lowest number above that of the seam from which this room took last, or, if there is none"
            + " above, the lowest of all (at first as if it had taken from the number -1)");
        SeamBeats x = eightInto5();
        for (int seam = 7; seam >= 0; seam--) {
            layOn(x, seam);
            layOn(x, seam);
        }
        x.wake(5, true);
        Check.due("at first", x.room(5, 10), NONE);
        for (int i = 0; i < 16; i++) {
            x.run(1);
            Check.due("the turn " + i, x.room(5, 10), i % 8);
            Check.due("its item", x.queue(5, 0, 1), i % 8);
        }
        x.run(3);
        Check.due("when nothing is left", x.room(5, 10), 7);
        x.wake(5, false);
        layOn(x, 7);
        x.wake(5, true);
        x.run(1);
        Check.due("from the highest one to itself", x.room(5, 10), 7);
        Check.due("its item", x.queue(5, 0, 1), 7);
    }

    /** After each seam, and at first, with each choice of ripe seams. */
    private static void everyTurn() {
        Check.says("that of the next one in turn");
        for (int last = NONE; last < 8; last++) {
            for (int ripe = 1; ripe < 256; ripe++) {
                SeamBeats x = eightInto5();
                if (last != NONE) {
                    layOn(x, last);
                    x.wake(5, true);
                    x.run(1);
                    x.wake(5, false);
                }
                Check.due("taken last", x.room(5, 10), last);
                for (int seam = 0; seam < 8; seam++) {
                    if ((ripe >> seam & 1) == 1) {
                        layOn(x, seam);
                    }
                }
                x.wake(5, true);
                x.run(1);
                int above = ripe >> (last + 1) << (last + 1);
                int next = Integer.numberOfTrailingZeros(above == 0 ? ripe : above);
                Check.due("after " + last + ", ripe " + Integer.toBinaryString(ripe), x.room(5, 10), next);
            }
        }
    }

    private static void growingInTheSameTick() {
        Check.says("(So an item that is handed over to a room with a greater number can grow in the same tick.)");
        for (int from = 0; from < 6; from++) {
            for (int to = 0; to < 6; to++) {
                if (from != to) {
                    SeamBeats x = new SeamBeats();
                    x.seam(from, to, 1, 3);
                    x.put(from, 1);
                    x.run(1);
                    Check.due("from " + from + " to " + to, x.onSeam(0, 0, 2), to > from ? 1 : 0);
                }
            }
        }
    }

    // ---- input text

    private static void sixtyCharacters() {
        Check.says("The buffer has at most 60 characters.");
        SeamBeats x = new SeamBeats();
        for (int i = 1; i <= 60; i++) {
            Check.due("the character " + i, x.append(33 + i), i);
        }
        Check.badState(x, "the character 61", () -> x.append('0'));
        Check.due("clearBuffer()", x.clearBuffer(), 60);
        String most = "0=10;1=11;2=12;3=13;4=14;5=15;0=16;1=17;2=18;3=19;4=20;5=2*2";
        Check.due("a text of 60 characters", most.length(), 60);
        Check.type(x, most);
        Check.due("its first error", x.firstError(), 60);
        Check.due("its items", x.putAll(), 13);
        Check.due("its last item", x.queue(5, 2, 1), 2);
        Check.due("append after it", x.append('0'), 1);
    }

    private static void text(String text, int error, boolean isComplete) {
        SeamBeats x = new SeamBeats();
        Check.type(x, text);
        Check.due("firstError() of " + text, x.firstError(), error);
        if (isComplete) {
            Check.dueTrue("putAll() of " + text, Check.outcome(x::putAll).matches("[0-9]+"));
            Check.due("the length after it", x.clearBuffer(), 0);
        } else {
            Check.badArgument(x, "putAll() of " + text, x::putAll);
            Check.due("the length after it", x.clearBuffer(), text.length());
        }
    }

    private static void oneOrMoreParts() {
        Check.says("Items as a text are one or more parts with \";\" between them");
        text("", 0, false);
        text("0=1", 3, true);
        text("0=1;", 4, false);
        text("0=1;0=1", 7, true);
        text("0=1;0=1;", 8, false);
        text("0=1;;0=1", 4, false);
        text(";0=1", 0, false);
        text(";", 0, false);
        text("0=10=1", 4, false);
        text("0=1,0=1", 3, false);
        text("0=1:0=1", 3, false);
        text("0=1;0=1;1=1;1=1;2=1;2=1;3=1;3=1;4=1;4=1;5=1;5=1;0=1;1=1;2=1", 59, true);
    }

    private static void numbersInTexts() {
        Check.says("each a room, 0 to 5, \"=\", a value, 0 to 99, without a leading zero, and perhaps \"*\" and how often,"
            + " 2 to 8");
        for (int room = 0; room <= 9; room++) {
            text(room + "=1", room <= 5 ? 3 : 0, room <= 5);
        }
        text("/=1", 0, false);
        text(":=1", 0, false);
        text("-1=1", 0, false);
        text("10=1", 1, false);
        text("05=1", 1, false);
        text("0<1", 1, false);
        text("0>1", 1, false);
        for (int value = 0; value <= 99; value++) {
            text("5=" + value, value < 10 ? 3 : 4, true);
        }
        for (int digit = 0; digit <= 9; digit++) {
            text("5=0" + digit, 3, false);
            text("5=10" + digit, 4, false);
            text("5=99" + digit, 4, false);
            text("5=1*" + digit, digit >= 2 && digit <= 8 ? 5 : 4, digit >= 2 && digit <= 8);
            text("5=99*8" + digit, 6, false);
            text("5=0*02" + digit, 4, false);
        }
        text("5=", 2, false);
        text("5=-1", 2, false);
        text("5=/", 2, false);
        text("5=:", 2, false);
        text("5=1/", 3, false);
        text("5=1:", 3, false);
        text("5=1*", 4, false);
        text("5=1**2", 4, false);
        text("5=1+2", 3, false);
        text("5=1)2", 3, false);
        text("5=1*2*2", 5, false);
        text("5=*2", 2, false);
    }

    private static void errorsWhateverTheLength() {
        Check.says("a character is a syntax error if no items as a text, of any length, begin with the characters before"
            + " it and this character");
        String start = "0=10*2;0=10*2;0=10*2;0=10*2;0=10*2;0=10*2;0=10*2;0=10*2;";
        text(start + "0=1*", 60, false);
        text(start + "0=1;", 60, false);
        text(start + "0=1x", 59, false);
        text(start + "0=00", 59, false);
        text(start + "0=1=", 59, false);
        text(start.substring(7) + "0=10;0=10;5", 60, false);
        text(start.substring(7) + "0=10;0=10;6", 59, false);
        text(start.substring(7) + "0=10;0=1;5=", 60, false);
        text(start.substring(7) + "0=10;0=1;5;", 59, false);
        text(start.substring(7) + "0=1;0=1;5=;", 59, false);
        text(start.substring(7) + "0=1;0=1;06=", 58, false);
        text("!" + start + "0=1", 0, false);
        text("0!" + start + "==", 1, false);
    }

    // ---- undo

    private static void undoOfWhatChangesNothing() {
        Check.says("saves the state from before it (also if it changes nothing)");
        SeamBeats x = new SeamBeats();
        long before = x.digest();
        Check.due("beat(0, 1, 0)", x.beat(0, 1, 0), 10);
        Check.due("saved states", x.count(11), 1);
        Check.due("wake(0, true)", x.wake(0, true), 1);
        Check.due("saved states", x.count(11), 2);
        Check.due("route(0, NONE)", x.route(0, NONE), NONE);
        Check.due("saved states", x.count(11), 3);
        Check.due("undo()", x.undo(), 2);
        Check.due("undo()", x.undo(), 1);
        Check.due("undo()", x.undo(), 0);
        Check.due("digest()", x.digest(), before);
        Check.badState(x, "undo() of no saved state", x::undo);
        x.put(0, 1);
        x.clearBuffer();
        x.append('0');
        x.firstError();
        x.digest();
        Check.due("what is not undoable saves nothing", x.count(11), 1);
    }

    private static void undoOfAllButTheBuffer() {
        Check.says("all, also what is counted so far, but the buffer and the saved states");
        SeamBeats x = new SeamBeats();
        x.seam(0, 5, 1, 1);
        x.seam(1, 5, 2, 2);
        put(x, "0=1*4;1=20*2;1=21*2;2=30;2=31*2;3=40*2");
        x.run(3);
        String before = picture(x);
        long digest = x.digest();
        int[] counted = {0, 3, 5, 6, 7, 8, 9};
        int[] was = new int[counted.length];
        for (int i = 0; i < counted.length; i++) {
            was[i] = x.count(counted[i]);
        }
        x.lose(5, 2);
        x.run(3);
        for (int i = 0; i < counted.length; i++) {
            Check.dueTrue("count(" + counted[i] + ") changes", x.count(counted[i]) != was[i]);
        }
        Check.type(x, "0=");
        x.undo();
        x.undo();
        Check.due("the buffer stays", x.clearBuffer(), 2);
        String after = picture(x);
        Check.dueTrue("all that can be seen: " + after + ", due is " + before, after.equals(before));
        Check.due("digest()", x.digest(), digest);
        Check.due("saved states", x.count(11), 4);
        put(x, "4=1");
        x.undo();
        Check.due("what putAll cleared stays away", x.clearBuffer(), 0);
        Check.due("digest()", x.digest(), digest);
        Check.type(x, "4=1");
        x.put(0, 1);
        x.clearBuffer();
        x.undo();
        Check.due("what clearBuffer cleared stays away", x.clearBuffer(), 0);
    }

    /** All that the looks tell, but the saved states. */
    private static String picture(SeamBeats x) {
        StringBuilder all = new StringBuilder();
        for (int what = 0; what <= 10; what++) {
            all.append(x.count(what)).append(what < 10 ? ',' : ';');
        }
        for (int room = 0; room < 6; room++) {
            for (int what = 0; what <= 10; what++) {
                all.append(x.room(room, what)).append(',');
            }
            for (int place = 0; place < x.room(room, 4); place++) {
                all.append(x.queue(room, place, 0)).append('=').append(x.queue(room, place, 1)).append(';');
            }
        }
        for (int seam = 0; seam < x.count(1); seam++) {
            for (int what = 0; what <= 6; what++) {
                all.append(x.seamOf(seam, what)).append(',');
            }
            for (int place = 0; place < x.seamOf(seam, 4); place++) {
                all.append(x.onSeam(seam, place, 0)).append('=').append(x.onSeam(seam, place, 1)).append('*')
                    .append(x.onSeam(seam, place, 2)).append(';');
            }
        }
        return all.toString();
    }

    /** Room 0 has taken from the seam 0, and sleeps. */
    private static SeamBeats afterTaking() {
        SeamBeats x = new SeamBeats();
        x.seam(1, 0, 2, 1);
        put(x, "1=10;2=20*4");
        x.route(2, NONE);
        x.run(2);
        x.wake(0, false);
        return x;
    }

    private static void undoneSeamsLeaveNothing() {
        Check.says("Restores the latest saved state");
        for (int from = 1; from <= 5; from++) {
            SeamBeats x = afterTaking();
            // a seam that is undone when its first item was ripe, in what was and in what would be: it would be
            // the next one in turn
            Check.due("the seam", x.seam(from, 0, 6, 1), 1);
            put(x, from + "=30*4");
            x.route(from, 1);
            x.run(3);
            x.wake(0, true);
            x.run(1);
            Check.dueTrue("ripe items lie on the seam", x.seamOf(1, 5) > 0);
            x.ifRun(0, 0);
            for (int i = 0; i < 6; i++) {
                x.undo();
            }
            goOnAlike(x, afterTaking());
        }
    }

    private static void goOnAlike(SeamBeats x, SeamBeats y) {
        Act[] acts = {a -> a.wake(0, true), a -> a.put(1, 40), a -> a.run(1), a -> a.run(1), a -> a.run(1),
            a -> a.seam(3, 0, 1, 2), a -> a.put(3, 50), a -> a.run(1), a -> a.run(1), a -> a.run(1)};
        for (int i = 0; i < acts.length; i++) {
            Check.due("the prospects before the call " + i, prospects(x), prospects(y));
            Check.due("the call " + i, acts[i].on(x), acts[i].on(y));
            String is = picture(x);
            String due = picture(y);
            Check.dueTrue("all that can be seen after the call " + i + ": " + is + ", due is " + due, is.equals(due));
        }
    }

    /** What would be, in one number. */
    private static long prospects(SeamBeats x) {
        long all = 0;
        for (int ticks = 0; ticks < 6; ticks++) {
            for (int what = 0; what <= 4; what++) {
                all = 31 * all + x.ifRun(ticks, what);
            }
        }
        for (int item = 0; item < x.count(2); item++) {
            all = 31 * all + x.outIn(item);
        }
        for (int room = 0; room < 6; room++) {
            all = 31 * all + x.bestPhase(room);
        }
        return all;
    }

    private static void sixSavedStates() {
        Check.says("At most 6 states are saved");
        SeamBeats x = new SeamBeats();
        for (int i = 0; i <= 5; i++) {
            x.put(0, i);
            Check.due("saved states", x.count(11), i + 1);
        }
        x.put(0, 6);
        Check.due("saved states after the seventh call", x.count(11), 6);
        for (int left = 5; left >= 0; left--) {
            Check.due("undo()", x.undo(), left);
            Check.due("saved states", x.count(11), left);
            Check.due("items", x.count(2), left + 1);
        }
        Check.badState(x, "undo() of the first call", x::undo);
        SeamBeats six = new SeamBeats();
        long before = six.digest();
        for (int i = 0; i < 6; i++) {
            six.put(0, i);
        }
        for (int left = 5; left >= 0; left--) {
            six.undo();
        }
        Check.due("six calls are undone wholly", six.digest(), before);
    }

    private interface Act {
        long on(SeamBeats x);
    }

    private static void oldestStateGoesFirst() {
        Check.says("the oldest one is dropped first");
        Act[] acts = {x -> x.beat(0, 2, 1), x -> x.wake(0, false), x -> x.lose(0, 1), x -> x.seam(0, 1, 1, 1),
            x -> x.route(0, NONE), x -> x.put(5, 1), x -> x.run(1), SeamBeats::putAll};
        for (int i = 0; i < acts.length; i++) {
            SeamBeats x = new SeamBeats();
            Check.type(x, "4=4");
            for (int room = 0; room < 6; room++) {
                x.put(room, room);
            }
            acts[i].on(x);
            Check.due("saved states after the call " + i, x.count(11), 6);
            for (int left = 5; left >= 0; left--) {
                Check.due("undo() after the call " + i, x.undo(), left);
                Check.due("items after the call " + i, x.count(2), left + 1);
                Check.due("the tick after the call " + i, x.count(0), 0);
                Check.due("the last item after the call " + i, x.room(left, 4), 1);
            }
            Check.badState(x, "undo() of the oldest one", x::undo);
            Check.due("the first item stays", x.queue(0, 0, 0), 0);
        }
    }
}
