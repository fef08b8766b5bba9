/** Objects in states at the document's limits. The same name makes the same object with every call. */
enum Scene {
    NEW,
    SOME_OF_ALL,
    ONE_PLACE_LEFT,
    ALL_FULL,
    TICK_9900,
    TICK_9901,
    TICK_9998,
    TICK_9999;

    SeamBeats make() {
        SeamBeats x = new SeamBeats();
        switch (this) {
            case NEW:
                break;
            case SOME_OF_ALL:
                someOfAll(x);
                break;
            case ONE_PLACE_LEFT:
                full(x, 7, 7, 4, 59);
                break;
            case ALL_FULL:
                full(x, 8, 8, 5, 60);
                break;
            case TICK_9900:
                ticks(x, 9900);
                break;
            case TICK_9901:
                ticks(x, 9901);
                break;
            case TICK_9998:
                ticks(x, 9998);
                break;
            default:
                ticks(x, 9999);
                break;
        }
        return x;
    }

    /** Five saved states, items in queues, on seams and out, beats to lose, and text that is not complete. */
    private static void someOfAll(SeamBeats x) {
        x.seam(0, 1, 2, 2);
        x.seam(1, 2, 1, 3);
        Check.type(x, "0=5*3;1=7*2;4=9");
        x.putAll();
        x.lose(2, 3);
        x.run(4);
        Check.type(x, "0=1;");
    }

    /**
     * Six saved states; so many seams; so many items in the queue of the room 0, whose seam is full; so often
     * 20 beats to lose, but at most 99, for the room 2; so many characters, which are complete items.
     */
    private static void full(SeamBeats x, int seams, int items, int losses, int characters) {
        for (int i = 0; i < seams; i++) {
            x.seam(i % 5, 5, 1 + i % 6, 1 + i % 3);
        }
        x.wake(5, false);
        Check.type(x, "0=1*8;1=2*3;3=99");
        x.putAll();
        x.run(2);
        while (x.room(0, 4) < items) {
            x.put(0, 3);
        }
        for (int i = 0; i < losses; i++) {
            x.lose(2, Math.min(20, 99 - x.room(2, 5)));
        }
        Check.type(x, "0=10;1=11;2=12;3=13;4=14;5=15;0=16;1=17;2=18;3=19;4=20;5=2*2".substring(0, characters));
    }

    private static void ticks(SeamBeats x, int ticks) {
        x.seam(0, 1, 2, 2);
        x.beat(1, 4, 3);
        while (x.count(0) < ticks) {
            x.run(Math.min(99, ticks - x.count(0)));
        }
        x.put(0, 5);
        Check.type(x, "5=0");
    }

    /**
     * All that can be seen of the object, and of each state that it has saved: two objects that have gone the
     * same way have the same trail. What is saved is gone with it, and the buffer too.
     */
    static String trail(SeamBeats x) {
        StringBuilder trail = new StringBuilder();
        trail.append(x.digest()).append(' ').append(x.firstError());
        for (int left = x.count(11); left > 0; left--) {
            trail.append(' ').append(x.undo()).append(' ').append(x.digest());
        }
        return trail.append(' ').append(x.clearBuffer()).toString();
    }
}
