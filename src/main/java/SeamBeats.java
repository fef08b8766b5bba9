/**
 * Rooms that beat at different times and hand items over at seams.
 *
 * Every array and object is made with the object of this class and used again, so that no call
 * makes anything but the exception that it throws.
 */
public final class SeamBeats {
    public static final int NONE = -1;

    private static final int ROOMS = 6;
    private static final int MOST_PERIOD = 4;
    private static final int MOST_SEAMS = 8;
    private static final int MOST_SIZE = 6;
    private static final int MOST_CROSSING = 3;
    private static final int MOST_QUEUED = 8;
    private static final int MOST_ITEMS = 999;
    private static final int MOST_VALUE = 99;
    private static final int MOST_BEATS_AT_ONCE = 20;
    private static final int MOST_TO_LOSE = 99;
    private static final int MOST_TICKS = 99;
    private static final int LAST_TICK = 9999;
    private static final int MOST_TICKS_AHEAD = 300;
    private static final int TICKS_FOR_PHASE = 40;
    private static final int TICKS_FOR_DIGEST = 30;
    private static final int MOST_SAVED = 6;
    private static final int MOST_CODES = 60;

    /** What the cells of an item in a line are; the same numbers as in queue and onSeam. */
    private static final int NUMBER = 0;
    private static final int VALUE = 1;
    private static final int AGE = 2;
    private static final int CELLS = 3;

    /** Some properties of a room, numbered as in the promise of room. */
    private static final int QUEUED = 4;
    private static final int LOST = 6;
    private static final int WAITS = 7;
    private static final int OUT = 8;
    private static final int ROOM_PROPERTIES = 11;
    private static final int SEAM_PROPERTIES = 7;

    private static final int SAVED_STATES = 11;
    private static final int COUNTS = 12;
    private static final int PROSPECTS = 5;

    private static final long HASH_START = 2689L;
    private static final int EXPONENT_OF_ONE = 1023;
    private static final int FRACTION_BITS = 52;

    private final State now;
    /** Where what would be is tried out; what it holds between two calls does not matter. */
    private final State ahead;
    private final History history;
    private final Text text;

    public SeamBeats() {
        now = new State();
        ahead = new State();
        history = new History();
        text = new Text();
    }

    // ---- rooms, seams

    public int beat(int room, int period, int phase)
            throws IndexOutOfBoundsException, IllegalArgumentException {
        Room found = now.roomAt(room);
        if (found == null) {
            throw new IndexOutOfBoundsException("there is no such room");
        }
        if (period < 1 || period > MOST_PERIOD || phase < 0 || phase >= period) {
            throw new IllegalArgumentException("period or phase is out of range");
        }
        history.save(now);
        int before = 10 * found.period + found.phase;
        found.period = period;
        found.phase = phase;
        return before;
    }

    public int wake(int room, boolean isAwake) throws IndexOutOfBoundsException {
        Room found = now.roomAt(room);
        if (found == null) {
            throw new IndexOutOfBoundsException("there is no such room");
        }
        history.save(now);
        int before = found.isAwake ? 1 : 0;
        found.isAwake = isAwake;
        return before;
    }

    public int lose(int room, int beats)
            throws IndexOutOfBoundsException, IllegalArgumentException, IllegalStateException {
        Room found = now.roomAt(room);
        if (found == null) {
            throw new IndexOutOfBoundsException("there is no such room");
        }
        if (beats < 1 || beats > MOST_BEATS_AT_ONCE) {
            throw new IllegalArgumentException("beats is out of range");
        }
        if (found.toLose + beats > MOST_TO_LOSE) {
            throw new IllegalStateException("the room would have too many beats to lose");
        }
        history.save(now);
        found.toLose += beats;
        return found.toLose;
    }

    public int seam(int from, int to, int size, int crossing)
            throws IndexOutOfBoundsException, IllegalArgumentException, IllegalStateException {
        if (now.roomAt(from) == null || now.roomAt(to) == null) {
            throw new IndexOutOfBoundsException("there is no such room");
        }
        if (from == to || size < 1 || size > MOST_SIZE || crossing < 1 || crossing > MOST_CROSSING) {
            throw new IllegalArgumentException("same rooms, or size or crossing is out of range");
        }
        if (now.seamCount >= MOST_SEAMS) {
            throw new IllegalStateException("there are as many seams as can be");
        }
        history.save(now);
        return now.addSeam(from, to, size, crossing);
    }

    public int route(int room, int seam) throws IndexOutOfBoundsException, IllegalArgumentException {
        Room found = now.roomAt(room);
        Seam next = now.seamAt(seam);
        if (found == null || (next == null && seam != NONE)) {
            throw new IndexOutOfBoundsException("there is no such room or seam");
        }
        if (next != null && next.from != room) {
            throw new IllegalArgumentException("the seam does not go out from the room");
        }
        history.save(now);
        int before = found.route;
        found.route = seam;
        return before;
    }

    // ---- items, ticks

    public int put(int room, int value)
            throws IndexOutOfBoundsException, IllegalArgumentException, IllegalStateException {
        Room found = now.roomAt(room);
        if (found == null) {
            throw new IndexOutOfBoundsException("there is no such room");
        }
        if (value < 0 || value > MOST_VALUE) {
            throw new IllegalArgumentException("value is out of range");
        }
        if (!now.hasRoomFor(found)) {
            throw new IllegalStateException("the queue is full, or all items were put");
        }
        history.save(now);
        now.addItem(found, value);
        return now.itemCount - 1;
    }

    public int run(int ticks) throws IllegalArgumentException, IllegalStateException {
        if (ticks < 1 || ticks > MOST_TICKS) {
            throw new IllegalArgumentException("ticks is out of range");
        }
        if (now.tick + ticks > LAST_TICK) {
            throw new IllegalStateException("the number of the tick would be too large");
        }
        history.save(now);
        int before = now.totalOfRooms(OUT);
        now.advance(ticks);
        return now.totalOfRooms(OUT) - before;
    }

    // ---- texts

    public int append(int code) throws IllegalArgumentException, IllegalStateException {
        if (code < 33 || code > 126) {
            throw new IllegalArgumentException("code is out of range");
        }
        if (text.length >= MOST_CODES) {
            throw new IllegalStateException("the buffer is full");
        }
        text.add(code);
        return text.length;
    }

    public int clearBuffer() {
        int before = text.length;
        text.length = 0;
        return before;
    }

    public int firstError() {
        return text.errorPlace();
    }

    public int putAll() throws IllegalArgumentException, IllegalStateException {
        if (!text.isComplete()) {
            throw new IllegalArgumentException("the buffer is not complete items as a text");
        }
        ahead.copyFrom(now);
        if (!putText(ahead)) {
            throw new IllegalStateException("a queue would be too long, or there would be too many items");
        }
        history.save(now);
        now.copyFrom(ahead);
        text.length = 0;
        return now.itemCount;
    }

    public int undo() throws IllegalStateException {
        if (history.length == 0) {
            throw new IllegalStateException("there is no saved state");
        }
        history.restore(now);
        return history.length;
    }

    // ---- looks; nothing is changed

    public int room(int room, int what) throws IndexOutOfBoundsException, IllegalArgumentException {
        Room found = now.roomAt(room);
        if (found == null) {
            throw new IndexOutOfBoundsException("there is no such room");
        }
        if (what < 0 || what >= ROOM_PROPERTIES) {
            throw new IllegalArgumentException("what is out of range");
        }
        return found.property(what);
    }

    public int queue(int room, int place, int what)
            throws IndexOutOfBoundsException, IllegalArgumentException {
        Room found = now.roomAt(room);
        if (found == null) {
            throw new IndexOutOfBoundsException("there is no such room");
        }
        if (place < 0 || place >= MOST_QUEUED || what < NUMBER || what > VALUE) {
            throw new IllegalArgumentException("place or what is out of range");
        }
        return found.line.cellAt(place, what);
    }

    public int seamOf(int seam, int what) throws IndexOutOfBoundsException, IllegalArgumentException {
        Seam found = now.seamAt(seam);
        if (found == null) {
            throw new IndexOutOfBoundsException("there is no such seam");
        }
        if (what < 0 || what >= SEAM_PROPERTIES) {
            throw new IllegalArgumentException("what is out of range");
        }
        return found.property(what);
    }

    public int onSeam(int seam, int place, int what)
            throws IndexOutOfBoundsException, IllegalArgumentException {
        Seam found = now.seamAt(seam);
        if (found == null) {
            throw new IndexOutOfBoundsException("there is no such seam");
        }
        if (place < 0 || place >= MOST_SIZE || what < NUMBER || what > AGE) {
            throw new IllegalArgumentException("place or what is out of range");
        }
        return found.line.cellAt(place, what);
    }

    public int count(int what) throws IllegalArgumentException {
        if (what < 0 || what >= COUNTS) {
            throw new IllegalArgumentException("what is out of range");
        }
        return counted(what);
    }

    // ---- what would be; nothing is changed, and the limit of ticks does not matter

    public int ifRun(int ticks, int what) throws IllegalArgumentException {
        if (ticks < 0 || ticks > MOST_TICKS_AHEAD || what < 0 || what >= PROSPECTS) {
            throw new IllegalArgumentException("ticks or what is out of range");
        }
        lookAhead(ticks);
        return brought(what);
    }

    public int outIn(int item) throws IndexOutOfBoundsException {
        if (item < 0 || item >= now.itemCount) {
            throw new IndexOutOfBoundsException("there is no such item");
        }
        return ticksUntilOut(item);
    }

    public int bestPhase(int room) throws IndexOutOfBoundsException {
        Room found = now.roomAt(room);
        if (found == null) {
            throw new IndexOutOfBoundsException("there is no such room");
        }
        return phaseWithMostOut(room, found.period);
    }

    public int slowest() {
        int slowest = NONE;
        int most = 0;
        for (int i = 0; i < ROOMS; i++) {
            Room room = now.roomAt(i);
            if (room != null && room.waits > most) {
                slowest = i;
                most = room.waits;
            }
        }
        return slowest;
    }

    public double outShare() {
        return now.itemCount > 0 ? (double) now.totalOfRooms(OUT) / (double) now.itemCount : 1.0;
    }

    public long digest() {
        long hash = HASH_START;
        for (int what = 0; what < COUNTS; what++) {
            hash = mixed(hash, counted(what));
        }
        for (int i = 0; i < ROOMS; i++) {
            Room room = now.roomAt(i);
            if (room != null) {
                hash = mixedWithRoom(hash, room);
                hash = mixed(hash, phaseWithMostOut(i, room.period));
            }
        }
        for (int i = 0; i < now.seamCount; i++) {
            Seam seam = now.seamAt(i);
            if (seam != null) {
                hash = mixedWithSeam(hash, seam);
            }
        }
        lookAhead(TICKS_FOR_DIGEST);
        for (int what = 0; what < PROSPECTS; what++) {
            hash = mixed(hash, brought(what));
        }
        if (now.itemCount > 0) {
            hash = mixed(hash, ticksUntilOut(0));
        }
        hash = mixed(hash, slowest());
        hash = mixed(hash, bitsOfShare(outShare()));
        return mixedWithText(hash);
    }

    // ---- parts of the calls

    private int counted(int what) {
        return what == SAVED_STATES ? history.length : now.counted(what);
    }

    /** Puts the items of the whole text; false if one of them has no place, and then some are put. */
    private boolean putText(State state) {
        for (int i = 0; i < text.length; i++) {
            boolean isStartOfPart = i == 0 || text.codeAt(i - 1) == ';';
            if (isStartOfPart && !putPart(state, i)) {
                return false;
            }
        }
        return true;
    }

    /** Puts the items of the part of a complete text that begins at start. */
    private boolean putPart(State state, int start) {
        Room room = state.roomAt(text.digitAt(start));
        int value = text.digitAt(start + 2);
        int next = start + 3;
        if (text.isDigitAt(next)) {
            value = 10 * value + text.digitAt(next);
            next++;
        }
        int times = text.codeAt(next) == '*' ? text.digitAt(next + 1) : 1;
        for (int i = 0; i < times; i++) {
            if (room == null || !state.hasRoomFor(room)) {
                return false;
            }
            state.addItem(room, value);
        }
        return true;
    }

    private void lookAhead(int ticks) {
        ahead.copyFrom(now);
        ahead.advance(ticks);
    }

    /** What the ticks of the latest lookAhead bring. */
    private int brought(int what) {
        switch (what) {
            case 0:
                return ahead.totalOfRooms(OUT) - now.totalOfRooms(OUT);
            case 1:
                return ahead.totalOfRooms(QUEUED);
            case 2:
                return ahead.itemsOnSeams();
            case 3:
                return ahead.totalOfRooms(WAITS) - now.totalOfRooms(WAITS);
            case 4:
                return ahead.totalOfRooms(LOST) - now.totalOfRooms(LOST);
            default:
                return NONE;
        }
    }

    private int ticksUntilOut(int item) {
        ahead.copyFrom(now);
        for (int ticks = 0; ticks <= MOST_TICKS_AHEAD; ticks++) {
            if (!ahead.holds(item)) {
                return ticks;
            }
            ahead.advance(1);
        }
        return NONE;
    }

    private int phaseWithMostOut(int room, int period) {
        int best = 0;
        int most = NONE;
        for (int phase = 0; phase < period; phase++) {
            ahead.copyFrom(now);
            Room tried = ahead.roomAt(room);
            if (tried != null) {
                tried.phase = phase;
            }
            ahead.advance(TICKS_FOR_PHASE);
            int out = ahead.totalOfRooms(OUT);
            if (out > most) {
                best = phase;
                most = out;
            }
        }
        return best;
    }

    private static long mixed(long hash, long value) {
        return 31L * hash + value;
    }

    private static long mixedWithRoom(long hash, Room room) {
        long next = hash;
        for (int what = 0; what < ROOM_PROPERTIES; what++) {
            next = mixed(next, room.property(what));
        }
        for (int place = 0; place < room.line.length; place++) {
            next = mixed(next, room.line.cellAt(place, NUMBER));
            next = mixed(next, room.line.cellAt(place, VALUE));
        }
        return next;
    }

    private static long mixedWithSeam(long hash, Seam seam) {
        long next = hash;
        for (int what = 0; what < SEAM_PROPERTIES; what++) {
            next = mixed(next, seam.property(what));
        }
        for (int place = 0; place < seam.line.length; place++) {
            next = mixed(next, seam.line.cellAt(place, NUMBER));
            next = mixed(next, seam.line.cellAt(place, VALUE));
            next = mixed(next, seam.line.cellAt(place, AGE));
        }
        return next;
    }

    private long mixedWithText(long hash) {
        long next = mixed(hash, text.length);
        for (int i = 0; i < text.length; i++) {
            next = mixed(next, text.codeAt(i));
        }
        return next;
    }

    /**
     * The bits of a share, 0.0 to 1.0, as Double.doubleToLongBits would give them: that function is
     * not in the library that LANGUAGE.md leaves. Doubling is exact, so nothing is rounded here.
     */
    private static long bitsOfShare(double share) {
        if (share <= 0.0) {
            return 0L;
        }
        double scaled = share;
        long exponent = EXPONENT_OF_ONE;
        while (scaled < 1.0 && exponent > 1L) {
            scaled = scaled * 2.0;
            exponent--;
        }
        double fraction = (scaled - 1.0) * (double) (1L << FRACTION_BITS);
        return (exponent << FRACTION_BITS) | (long) fraction;
    }

    /** Items in their order, the first one at the place 0: a queue, or what lies on a seam. */
    private static final class Line {
        /** For each place the number, the value and the age of its item. */
        final int[] cells = new int[CELLS * MOST_QUEUED];
        int length = 0;

        /** NONE if there is no item at the place. */
        int cellAt(int place, int what) {
            if (place < 0 || place >= length || what < 0 || what >= CELLS) {
                return NONE;
            }
            int index = CELLS * place + what;
            return index >= 0 && index < cells.length ? cells[index] : NONE;
        }

        /** Adds an item of the age 0 behind all others. */
        void add(int number, int value) {
            int start = CELLS * length;
            if (start >= 0 && start < cells.length - AGE) {
                cells[start + NUMBER] = number;
                cells[start + VALUE] = value;
                cells[start + AGE] = 0;
                length++;
            }
        }

        void dropFirst() {
            if (length > 0) {
                length--;
                int end = CELLS * length;
                for (int i = 0; i < end && i < cells.length - CELLS; i++) {
                    cells[i] = cells[i + CELLS];
                }
            }
        }

        void grow(int most) {
            int end = CELLS * length;
            for (int i = AGE; i < end && i < cells.length; i += CELLS) {
                if (cells[i] < most) {
                    cells[i]++;
                }
            }
        }

        int itemsOfAge(int age) {
            int items = 0;
            for (int place = 0; place < length; place++) {
                if (cellAt(place, AGE) == age) {
                    items++;
                }
            }
            return items;
        }

        boolean holds(int number) {
            for (int place = 0; place < length; place++) {
                if (cellAt(place, NUMBER) == number) {
                    return true;
                }
            }
            return false;
        }

        void copyFrom(Line other) {
            length = other.length;
            int end = CELLS * length;
            for (int i = 0; i < end && i < cells.length && i < other.cells.length; i++) {
                cells[i] = other.cells[i];
            }
        }
    }

    private static final class Room {
        final Line line = new Line();
        int period = 1;
        int phase = 0;
        boolean isAwake = true;
        int route = NONE;
        int toLose = 0;
        int lost = 0;
        int waits = 0;
        int out = 0;
        int lastValue = NONE;
        int lastSeam = NONE;

        /** Whether the tick is one of its beats, be it one that it has to lose. */
        boolean isDueAt(int tick) {
            return isAwake && period > 0 && tick % period == phase;
        }

        int property(int what) {
            switch (what) {
                case 0:
                    return period;
                case 1:
                    return phase;
                case 2:
                    return isAwake ? 1 : 0;
                case 3:
                    return route;
                case QUEUED:
                    return line.length;
                case 5:
                    return toLose;
                case LOST:
                    return lost;
                case WAITS:
                    return waits;
                case OUT:
                    return out;
                case 9:
                    return lastValue;
                case 10:
                    return lastSeam;
                default:
                    return NONE;
            }
        }

        void copyFrom(Room other) {
            line.copyFrom(other.line);
            period = other.period;
            phase = other.phase;
            isAwake = other.isAwake;
            route = other.route;
            toLose = other.toLose;
            lost = other.lost;
            waits = other.waits;
            out = other.out;
            lastValue = other.lastValue;
            lastSeam = other.lastSeam;
        }
    }

    private static final class Seam {
        final Line line = new Line();
        int from = 0;
        int to = 0;
        int size = 0;
        int crossing = 0;
        int handed = 0;

        /** Makes it new, whatever an undone seam left here. */
        void begin(int fromRoom, int toRoom, int newSize, int newCrossing) {
            from = fromRoom;
            to = toRoom;
            size = newSize;
            crossing = newCrossing;
            handed = 0;
            line.length = 0;
        }

        int property(int what) {
            switch (what) {
                case 0:
                    return from;
                case 1:
                    return to;
                case 2:
                    return size;
                case 3:
                    return crossing;
                case 4:
                    return line.length;
                case 5:
                    return line.itemsOfAge(crossing);
                case 6:
                    return handed;
                default:
                    return NONE;
            }
        }

        void copyFrom(Seam other) {
            line.copyFrom(other.line);
            from = other.from;
            to = other.to;
            size = other.size;
            crossing = other.crossing;
            handed = other.handed;
        }
    }

    /** All that undo restores. */
    private static final class State {
        final Room[] rooms = new Room[ROOMS];
        final Seam[] seams = new Seam[MOST_SEAMS];
        int seamCount = 0;
        int tick = 0;
        int itemCount = 0;
        int sumOut = 0;
        int lastOut = NONE;

        State() {
            for (int i = 0; i < rooms.length; i++) {
                rooms[i] = new Room();
            }
            for (int i = 0; i < seams.length; i++) {
                seams[i] = new Seam();
            }
        }

        /** null if there is no such room. */
        Room roomAt(int number) {
            return number >= 0 && number < rooms.length ? rooms[number] : null;
        }

        /** null if there is no such seam. */
        Seam seamAt(int number) {
            return number >= 0 && number < seamCount && number < seams.length ? seams[number] : null;
        }

        /** Makes a seam, and returns its number. */
        int addSeam(int from, int to, int size, int crossing) {
            int number = seamCount;
            seamCount++;
            Seam seam = seamAt(number);
            if (seam != null) {
                seam.begin(from, to, size, crossing);
            }
            Room room = roomAt(from);
            if (room != null && room.route == NONE) {
                room.route = number;
            }
            return number;
        }

        boolean hasRoomFor(Room room) {
            return room.line.length < MOST_QUEUED && itemCount < MOST_ITEMS;
        }

        void addItem(Room room, int value) {
            room.line.add(itemCount, value);
            itemCount++;
        }

        void advance(int ticks) {
            for (int i = 0; i < ticks; i++) {
                doTick();
            }
        }

        private void doTick() {
            for (int i = 0; i < rooms.length; i++) {
                Room room = rooms[i];
                if (room != null && room.isDueAt(tick)) {
                    if (room.toLose > 0) {
                        room.toLose--;
                        room.lost++;
                    } else {
                        hand(room);
                        growInto(i);
                        take(room, i);
                    }
                }
            }
            tick++;
        }

        private void hand(Room room) {
            if (room.line.length == 0) {
                return;
            }
            int number = room.line.cellAt(0, NUMBER);
            int value = room.line.cellAt(0, VALUE);
            Seam seam = seamAt(room.route);
            if (seam == null) {
                room.line.dropFirst();
                room.out++;
                room.lastValue = value;
                sumOut += value;
                lastOut = number;
            } else if (seam.line.length < seam.size) {
                room.line.dropFirst();
                seam.line.add(number, value);
                seam.handed++;
            } else {
                room.waits++;
            }
        }

        private void growInto(int room) {
            for (int i = 0; i < seamCount && i < seams.length; i++) {
                Seam seam = seams[i];
                if (seam != null && seam.to == room) {
                    seam.line.grow(seam.crossing);
                }
            }
        }

        private void take(Room room, int number) {
            if (room.line.length >= MOST_QUEUED) {
                return;
            }
            int next = nextSeamInto(number, room.lastSeam);
            Seam seam = seamAt(next);
            if (seam != null) {
                room.line.add(seam.line.cellAt(0, NUMBER), seam.line.cellAt(0, VALUE));
                seam.line.dropFirst();
                room.lastSeam = next;
            }
        }

        /**
         * The seam from which the room takes, by turns after the last one; NONE if none is ripe. On
         * an empty seam the age of the first item is NONE, which no crossing is.
         */
        private int nextSeamInto(int room, int last) {
            int lowest = NONE;
            for (int i = 0; i < seamCount && i < seams.length; i++) {
                Seam seam = seams[i];
                if (seam != null && seam.to == room && seam.line.cellAt(0, AGE) == seam.crossing) {
                    if (i > last) {
                        return i;
                    }
                    if (lowest == NONE) {
                        lowest = i;
                    }
                }
            }
            return lowest;
        }

        int counted(int what) {
            switch (what) {
                case 0:
                    return tick;
                case 1:
                    return seamCount;
                case 2:
                    return itemCount;
                case 3:
                    return totalOfRooms(QUEUED);
                case 4:
                    return itemsOnSeams();
                case 5:
                    return totalOfRooms(OUT);
                case 6:
                    return sumOut;
                case 7:
                    return lastOut;
                case 8:
                    return totalOfRooms(LOST);
                case 9:
                    return totalOfRooms(WAITS);
                case 10:
                    return beatingRooms();
                default:
                    return NONE;
            }
        }

        int totalOfRooms(int what) {
            int total = 0;
            for (int i = 0; i < rooms.length; i++) {
                Room room = rooms[i];
                if (room != null) {
                    total += room.property(what);
                }
            }
            return total;
        }

        int itemsOnSeams() {
            int total = 0;
            for (int i = 0; i < seamCount && i < seams.length; i++) {
                Seam seam = seams[i];
                if (seam != null) {
                    total += seam.line.length;
                }
            }
            return total;
        }

        /** The rooms that beat in the tick that comes next, as a mask. */
        private int beatingRooms() {
            int mask = 0;
            for (int i = 0; i < rooms.length; i++) {
                Room room = rooms[i];
                if (room != null && room.isDueAt(tick) && room.toLose == 0) {
                    mask |= 1 << i;
                }
            }
            return mask;
        }

        /** Whether the item is still in a queue or on a seam. */
        boolean holds(int item) {
            for (int i = 0; i < rooms.length; i++) {
                Room room = rooms[i];
                if (room != null && room.line.holds(item)) {
                    return true;
                }
            }
            for (int i = 0; i < seamCount && i < seams.length; i++) {
                Seam seam = seams[i];
                if (seam != null && seam.line.holds(item)) {
                    return true;
                }
            }
            return false;
        }

        void copyFrom(State other) {
            for (int i = 0; i < rooms.length && i < other.rooms.length; i++) {
                Room mine = rooms[i];
                Room theirs = other.rooms[i];
                if (mine != null && theirs != null) {
                    mine.copyFrom(theirs);
                }
            }
            seamCount = other.seamCount;
            for (int i = 0; i < seamCount && i < seams.length && i < other.seams.length; i++) {
                Seam mine = seams[i];
                Seam theirs = other.seams[i];
                if (mine != null && theirs != null) {
                    mine.copyFrom(theirs);
                }
            }
            tick = other.tick;
            itemCount = other.itemCount;
            sumOut = other.sumOut;
            lastOut = other.lastOut;
        }
    }

    /** The saved states, the oldest one first. */
    private static final class History {
        final State[] states = new State[MOST_SAVED];
        int length = 0;

        History() {
            for (int i = 0; i < states.length; i++) {
                states[i] = new State();
            }
        }

        void save(State now) {
            if (length >= states.length) {
                dropOldest();
            }
            State slot = stateAt(length);
            if (slot != null) {
                slot.copyFrom(now);
                length++;
            }
        }

        /** Brings the latest saved state back into now, and drops it. */
        void restore(State now) {
            State latest = stateAt(length - 1);
            if (latest != null) {
                now.copyFrom(latest);
                length--;
            }
        }

        private State stateAt(int place) {
            return place >= 0 && place < states.length ? states[place] : null;
        }

        /** The object of the oldest state goes behind the others, to be used for the next one. */
        private void dropOldest() {
            State oldest = stateAt(0);
            for (int i = 0; i < states.length - 1; i++) {
                states[i] = states[i + 1];
            }
            if (states.length > 0) {
                states[states.length - 1] = oldest;
                length--;
            }
        }
    }

    /** The buffer, and how items are read in it. */
    private static final class Text {
        /** What the next character can be: the steps of reading a part. */
        private static final int AT_ROOM = 0;
        private static final int AT_EQUALS = 1;
        private static final int AT_VALUE = 2;
        private static final int AFTER_FIRST_DIGIT = 3;
        private static final int AFTER_VALUE = 4;
        private static final int AT_TIMES = 5;
        private static final int AFTER_TIMES = 6;
        private static final int WRONG = 7;

        final int[] codes = new int[MOST_CODES];
        int length = 0;

        void add(int code) {
            if (length >= 0 && length < codes.length) {
                codes[length] = code;
                length++;
            }
        }

        /** 0, which is no character of a text, if there is no such place. */
        int codeAt(int place) {
            return place >= 0 && place < length && place < codes.length ? codes[place] : 0;
        }

        boolean isDigitAt(int place) {
            return isBetween(codeAt(place), '0', '9');
        }

        /** NONE if there is no digit. */
        int digitAt(int place) {
            return isDigitAt(place) ? codeAt(place) - '0' : NONE;
        }

        /** The place of the first syntax error; the length if there is none. */
        int errorPlace() {
            int step = AT_ROOM;
            for (int i = 0; i < length; i++) {
                step = stepAfter(step, codeAt(i));
                if (step == WRONG) {
                    return i;
                }
            }
            return length;
        }

        boolean isComplete() {
            int step = AT_ROOM;
            for (int i = 0; i < length; i++) {
                step = stepAfter(step, codeAt(i));
            }
            return step == AFTER_FIRST_DIGIT || step == AFTER_VALUE || step == AFTER_TIMES;
        }

        private static int stepAfter(int step, int code) {
            switch (step) {
                case AT_ROOM:
                    return isBetween(code, '0', '5') ? AT_EQUALS : WRONG;
                case AT_EQUALS:
                    return code == '=' ? AT_VALUE : WRONG;
                case AT_VALUE:
                    if (code == '0') {
                        return AFTER_VALUE;
                    }
                    return isBetween(code, '1', '9') ? AFTER_FIRST_DIGIT : WRONG;
                case AFTER_FIRST_DIGIT:
                    return isBetween(code, '0', '9') ? AFTER_VALUE : stepAfterValue(code);
                case AFTER_VALUE:
                    return stepAfterValue(code);
                case AT_TIMES:
                    return isBetween(code, '2', '8') ? AFTER_TIMES : WRONG;
                case AFTER_TIMES:
                    return code == ';' ? AT_ROOM : WRONG;
                default:
                    return WRONG;
            }
        }

        private static int stepAfterValue(int code) {
            if (code == ';') {
                return AT_ROOM;
            }
            return code == '*' ? AT_TIMES : WRONG;
        }

        private static boolean isBetween(int code, int lowest, int highest) {
            return code >= lowest && code <= highest;
        }
    }
}
