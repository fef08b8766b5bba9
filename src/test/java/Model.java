import java.util.ArrayDeque;
import java.util.ArrayList;
import java.util.Deque;
import java.util.List;
import java.util.regex.Pattern;

/** The document once more, written on its own and with the Java library, to compare SeamBeats with. */
final class Model {
    private static final int NONE = -1;
    private static final String PART = "[0-5]=(0|[1-9][0-9]?)(\\*[2-8])?";
    private static final Pattern ITEMS = Pattern.compile(PART + "(;" + PART + ")*");
    private static final String[] ENDINGS = {"", "0=0", "=0", "0", "2"};

    record Item(int number, int value) {
    }

    static final class Lying {
        final Item item;
        int age;

        Lying(Item item, int age) {
            this.item = item;
            this.age = age;
        }
    }

    static final class Seam {
        int from;
        int to;
        int size;
        int crossing;
        int handed;
        final List<Lying> items = new ArrayList<>();

        Seam copy() {
            Seam seam = new Seam();
            seam.from = from;
            seam.to = to;
            seam.size = size;
            seam.crossing = crossing;
            seam.handed = handed;
            for (Lying lying : items) {
                seam.items.add(new Lying(lying.item, lying.age));
            }
            return seam;
        }

        boolean isRipe(int place) {
            return place < items.size() && items.get(place).age == crossing;
        }

        int ripe() {
            int ripe = 0;
            for (int i = 0; i < items.size(); i++) {
                ripe += isRipe(i) ? 1 : 0;
            }
            return ripe;
        }
    }

    static final class Room {
        int period = 1;
        int phase;
        boolean awake = true;
        int route = NONE;
        int toLose;
        int lost;
        int waits;
        final List<Item> out = new ArrayList<>();
        int tookFrom = NONE;
        final List<Item> queue = new ArrayList<>();

        Room copy() {
            Room room = new Room();
            room.period = period;
            room.phase = phase;
            room.awake = awake;
            room.route = route;
            room.toLose = toLose;
            room.lost = lost;
            room.waits = waits;
            room.out.addAll(out);
            room.tookFrom = tookFrom;
            room.queue.addAll(queue);
            return room;
        }
    }

    static final class World {
        int tick;
        final List<Room> rooms = new ArrayList<>();
        final List<Seam> seams = new ArrayList<>();
        final List<Item> items = new ArrayList<>();
        final List<Item> out = new ArrayList<>();

        World copy() {
            World world = new World();
            world.tick = tick;
            for (Room room : rooms) {
                world.rooms.add(room.copy());
            }
            for (Seam seam : seams) {
                world.seams.add(seam.copy());
            }
            world.items.addAll(items);
            world.out.addAll(out);
            return world;
        }

        void go(int ticks) {
            for (int t = 0; t < ticks; t++) {
                for (int r = 0; r < 6; r++) {
                    Room room = rooms.get(r);
                    if (room.awake && tick % room.period == room.phase) {
                        if (room.toLose > 0) {
                            room.toLose -= 1;
                            room.lost += 1;
                        } else {
                            beat(r);
                        }
                    }
                }
                tick += 1;
            }
        }

        void beat(int r) {
            Room room = rooms.get(r);
            if (!room.queue.isEmpty()) {
                if (room.route == NONE) {
                    Item item = room.queue.remove(0);
                    room.out.add(item);
                    out.add(item);
                } else if (seams.get(room.route).items.size() < seams.get(room.route).size) {
                    seams.get(room.route).items.add(new Lying(room.queue.remove(0), 0));
                    seams.get(room.route).handed += 1;
                } else {
                    room.waits += 1;
                }
            }
            for (Seam seam : seams) {
                for (Lying lying : seam.items) {
                    if (seam.to == r) {
                        lying.age = Math.min(lying.age + 1, seam.crossing);
                    }
                }
            }
            if (room.queue.size() < 8) {
                for (int i = 1; i <= seams.size(); i++) {
                    // the seams after the last one, round to itself
                    int s = (room.tookFrom + i) % seams.size();
                    if (seams.get(s).to == r && seams.get(s).isRipe(0)) {
                        room.queue.add(seams.get(s).items.remove(0).item);
                        room.tookFrom = s;
                        break;
                    }
                }
            }
        }

        int queued() {
            return rooms.stream().mapToInt(room -> room.queue.size()).sum();
        }

        int onSeams() {
            return seams.stream().mapToInt(seam -> seam.items.size()).sum();
        }

        int waits() {
            return rooms.stream().mapToInt(room -> room.waits).sum();
        }

        int lost() {
            return rooms.stream().mapToInt(room -> room.lost).sum();
        }
    }

    private World world = new World();
    private final Deque<World> saved = new ArrayDeque<>();
    private String buffer = "";

    Model() {
        for (int r = 0; r < 6; r++) {
            world.rooms.add(new Room());
        }
    }

    private static void in(int number, int low, int high) {
        if (number < low || number > high) {
            throw new IndexOutOfBoundsException();
        }
    }

    private static void demand(boolean holds) {
        if (!holds) {
            throw new IllegalArgumentException();
        }
    }

    private static void possible(boolean holds) {
        if (!holds) {
            throw new IllegalStateException();
        }
    }

    private static boolean within(int number, int low, int high) {
        return number >= low && number <= high;
    }

    private void save() {
        saved.addLast(world.copy());
        if (saved.size() > 6) {
            saved.removeFirst();
        }
    }

    int beat(int r, int period, int phase) {
        in(r, 0, 5);
        demand(within(period, 1, 4) && within(phase, 0, 3) && phase < period);
        save();
        Room room = world.rooms.get(r);
        int before = 10 * room.period + room.phase;
        room.period = period;
        room.phase = phase;
        return before;
    }

    int wake(int r, boolean awake) {
        in(r, 0, 5);
        save();
        boolean before = world.rooms.get(r).awake;
        world.rooms.get(r).awake = awake;
        return before ? 1 : 0;
    }

    int lose(int r, int beats) {
        in(r, 0, 5);
        demand(within(beats, 1, 20));
        possible(world.rooms.get(r).toLose + beats <= 99);
        save();
        world.rooms.get(r).toLose += beats;
        return world.rooms.get(r).toLose;
    }

    int seam(int from, int to, int size, int crossing) {
        in(from, 0, 5);
        in(to, 0, 5);
        demand(from != to && within(size, 1, 6) && within(crossing, 1, 3));
        possible(world.seams.size() < 8);
        save();
        Seam seam = new Seam();
        seam.from = from;
        seam.to = to;
        seam.size = size;
        seam.crossing = crossing;
        world.seams.add(seam);
        if (world.rooms.get(from).route == NONE) {
            world.rooms.get(from).route = world.seams.size() - 1;
        }
        return world.seams.size() - 1;
    }

    int route(int r, int s) {
        in(r, 0, 5);
        in(s, NONE, world.seams.size() - 1);
        demand(s == NONE || world.seams.get(s).from == r);
        save();
        int before = world.rooms.get(r).route;
        world.rooms.get(r).route = s;
        return before;
    }

    int put(int r, int value) {
        in(r, 0, 5);
        demand(within(value, 0, 99));
        possible(world.rooms.get(r).queue.size() < 8 && world.items.size() < 999);
        save();
        add(world, r, value);
        return world.items.size() - 1;
    }

    private static void add(World world, int r, int value) {
        Item item = new Item(world.items.size(), value);
        world.items.add(item);
        world.rooms.get(r).queue.add(item);
    }

    int run(int ticks) {
        demand(within(ticks, 1, 99));
        possible(world.tick + ticks <= 9999);
        save();
        int before = world.out.size();
        world.go(ticks);
        return world.out.size() - before;
    }

    int append(int code) {
        demand(within(code, 33, 126));
        possible(buffer.length() < 60);
        buffer += (char) code;
        return buffer.length();
    }

    int clearBuffer() {
        int before = buffer.length();
        buffer = "";
        return before;
    }

    int firstError() {
        for (int length = 1; length <= buffer.length(); length++) {
            boolean begins = false;
            for (String ending : ENDINGS) {
                begins |= ITEMS.matcher(buffer.substring(0, length) + ending).matches();
            }
            if (!begins) {
                return length - 1;
            }
        }
        return buffer.length();
    }

    int putAll() {
        demand(ITEMS.matcher(buffer).matches());
        World next = world.copy();
        for (String part : buffer.split(";")) {
            String[] sides = part.split("[=*]");
            for (int i = 0; i < (sides.length > 2 ? Integer.parseInt(sides[2]) : 1); i++) {
                add(next, Integer.parseInt(sides[0]), Integer.parseInt(sides[1]));
            }
        }
        possible(next.items.size() <= 999);
        for (Room room : next.rooms) {
            possible(room.queue.size() <= 8);
        }
        save();
        world = next;
        buffer = "";
        return world.items.size();
    }

    int undo() {
        possible(!saved.isEmpty());
        world = saved.removeLast();
        return saved.size();
    }

    int room(int r, int what) {
        in(r, 0, 5);
        demand(within(what, 0, 10));
        Room room = world.rooms.get(r);
        int last = room.out.isEmpty() ? NONE : room.out.get(room.out.size() - 1).value();
        int[] all = {room.period, room.phase, room.awake ? 1 : 0, room.route, room.queue.size(), room.toLose,
            room.lost, room.waits, room.out.size(), last, room.tookFrom};
        return all[what];
    }

    int queue(int r, int place, int what) {
        in(r, 0, 5);
        demand(within(place, 0, 7) && within(what, 0, 1));
        List<Item> queue = world.rooms.get(r).queue;
        if (place >= queue.size()) {
            return NONE;
        }
        return what == 0 ? queue.get(place).number() : queue.get(place).value();
    }

    int seamOf(int s, int what) {
        in(s, 0, world.seams.size() - 1);
        demand(within(what, 0, 6));
        Seam seam = world.seams.get(s);
        int[] all = {seam.from, seam.to, seam.size, seam.crossing, seam.items.size(), seam.ripe(), seam.handed};
        return all[what];
    }

    int onSeam(int s, int place, int what) {
        in(s, 0, world.seams.size() - 1);
        demand(within(place, 0, 5) && within(what, 0, 2));
        List<Lying> items = world.seams.get(s).items;
        if (place >= items.size()) {
            return NONE;
        }
        Lying lying = items.get(place);
        return what == 0 ? lying.item.number() : what == 1 ? lying.item.value() : lying.age;
    }

    int count(int what) {
        demand(within(what, 0, 11));
        int mask = 0;
        for (int r = 0; r < 6; r++) {
            Room room = world.rooms.get(r);
            if (room.awake && world.tick % room.period == room.phase && room.toLose == 0) {
                mask += 1 << r;
            }
        }
        int sum = world.out.stream().mapToInt(Item::value).sum();
        int last = world.out.isEmpty() ? NONE : world.out.get(world.out.size() - 1).number();
        int[] all = {world.tick, world.seams.size(), world.items.size(), world.queued(), world.onSeams(),
            world.out.size(), sum, last, world.lost(), world.waits(), mask, saved.size()};
        return all[what];
    }

    int ifRun(int ticks, int what) {
        demand(within(ticks, 0, 300) && within(what, 0, 4));
        World next = world.copy();
        next.go(ticks);
        int[] all = {next.out.size() - world.out.size(), next.queued(), next.onSeams(), next.waits() - world.waits(),
            next.lost() - world.lost()};
        return all[what];
    }

    int outIn(int number) {
        in(number, 0, world.items.size() - 1);
        World next = world.copy();
        for (int ticks = 0; ticks <= 300; ticks++) {
            if (next.out.contains(world.items.get(number))) {
                return ticks;
            }
            next.go(1);
        }
        return NONE;
    }

    int bestPhase(int r) {
        in(r, 0, 5);
        int[] out = new int[world.rooms.get(r).period];
        for (int phase = 0; phase < out.length; phase++) {
            World next = world.copy();
            next.rooms.get(r).phase = phase;
            next.go(40);
            out[phase] = next.out.size();
        }
        int best = 0;
        for (int phase = 1; phase < out.length; phase++) {
            best = out[phase] > out[best] ? phase : best;
        }
        return best;
    }

    int slowest() {
        int most = world.rooms.stream().mapToInt(room -> room.waits).max().getAsInt();
        for (int r = 0; r < 6; r++) {
            if (most > 0 && world.rooms.get(r).waits == most) {
                return r;
            }
        }
        return NONE;
    }

    double outShare() {
        return world.items.isEmpty() ? 1.0 : (double) world.out.size() / world.items.size();
    }

    long digest() {
        List<Long> list = new ArrayList<>();
        for (int what = 0; what <= 11; what++) {
            list.add((long) count(what));
        }
        for (int r = 0; r < 6; r++) {
            for (int what = 0; what <= 10; what++) {
                list.add((long) room(r, what));
            }
            for (Item item : world.rooms.get(r).queue) {
                list.add((long) item.number());
                list.add((long) item.value());
            }
            list.add((long) bestPhase(r));
        }
        for (int s = 0; s < world.seams.size(); s++) {
            for (int what = 0; what <= 6; what++) {
                list.add((long) seamOf(s, what));
            }
            for (Lying lying : world.seams.get(s).items) {
                list.add((long) lying.item.number());
                list.add((long) lying.item.value());
                list.add((long) lying.age);
            }
        }
        for (int what = 0; what <= 4; what++) {
            list.add((long) ifRun(30, what));
        }
        if (!world.items.isEmpty()) {
            list.add((long) outIn(0));
        }
        list.add((long) slowest());
        list.add(Double.doubleToLongBits(outShare()));
        list.add((long) buffer.length());
        for (char c : buffer.toCharArray()) {
            list.add((long) c);
        }
        long hash = 2689;
        for (long v : list) {
            hash = 31 * hash + v;
        }
        return hash;
    }
}
