/** Promises 9 to 13: append, clearBuffer, firstError, putAll, undo. */
public final class TextsTest {
    private static final int NONE = SeamBeats.NONE;

    public static void main(String[] args) {
        append();
        clearBuffer();
        firstErrorByPlace();
        firstErrorOfEachCharacter();
        putAll();
        putAllReadsEveryForm();
        putAllRefusesTexts();
        putAllIsAllOrNone();
        bufferIsNotUndone();
        undoRestoresEveryKindOfCall();
        undoKeepsSix();
        refusedCallsSaveNothing();
        Check.end();
    }

    private static void append() {
        SeamBeats x = new SeamBeats();
        int[] bad = {32, 127, 0, -1, 10, 255, Integer.MIN_VALUE, Integer.MAX_VALUE};
        for (int code : bad) {
            Check.badArgument(x, "append(" + code + ")", () -> x.append(code));
        }
        Check.due("append(33)", x.append(33), 1);
        Check.due("append(126)", x.append(126), 2);
        for (int i = 3; i <= 60; i++) {
            Check.due("append " + i, x.append(33 + i), i);
        }
        Check.badState(x, "a character after 60", () -> x.append(48));
        for (int code : bad) {
            Check.badArgument(x, "append(" + code + ") after 60", () -> x.append(code));
        }
        Check.due("count(11): nothing is saved", x.count(11), 0);
        Check.due("clearBuffer()", x.clearBuffer(), 60);
        Check.due("append again", x.append(48), 1);
    }

    private static void clearBuffer() {
        SeamBeats x = new SeamBeats();
        Check.due("clearBuffer() when empty", x.clearBuffer(), 0);
        Check.type(x, "zz9");
        Check.due("firstError()", x.firstError(), 0);
        Check.due("clearBuffer()", x.clearBuffer(), 3);
        Check.due("clearBuffer() again", x.clearBuffer(), 0);
        Check.due("firstError() when clear", x.firstError(), 0);
        Check.due("count(11): nothing is saved", x.count(11), 0);
        Check.due("digest()", x.digest(), new SeamBeats().digest());
    }

    private static void error(String text, int want) {
        SeamBeats x = new SeamBeats();
        Check.type(x, text);
        Check.look(x, "firstError() of " + text, want, x::firstError);
    }

    private static void firstErrorByPlace() {
        error("", 0);
        error("0", 1);
        error("5=", 2);
        error("5=9", 3);
        error("5=99", 4);
        error("5=0", 3);
        error("5=0*2", 5);
        error("5=99*8;", 7);
        error("6", 0);
        error("=", 0);
        error(";", 0);
        error("00", 1);
        error("0;", 1);
        error("0=x", 2);
        error("0=*2", 2);
        error("0=;", 2);
        error("0=00", 3);
        error("0=01", 3);
        error("0=100", 4);
        error("0=1=", 3);
        error("0=0*1", 4);
        error("0=0*9", 4);
        error("0=0*0", 4);
        error("0=0*;", 4);
        error("0=0**", 4);
        error("0=0*22", 5);
        error("0=0*2*2", 5);
        error("0=0;;", 4);
        error("0=0;6", 4);
        error("0=0;1=1;2=22*2;5=9*8;x", 21);
        error("0=0,1=1", 3);
        error("0=-1", 2);
        error("0=1*-2", 4);
        error("!0=1", 0);
        error("0=10*2;0=10*2;0=10*2;0=10*2;0=10*2;0=10*2;0=10*2;0=10*2;0=1", 59);
    }

    /** After each kind of beginning every character is tried; those that may follow stand beside it. */
    private static void firstErrorOfEachCharacter() {
        String[] beginnings = {"", "3", "3=", "3=0", "3=7", "3=70", "3=0*", "3=7*8", "3=1;", "3=1*2;5"};
        String[] follow = {"012345", "=", "0123456789", "*;", "0123456789*;", "*;", "2345678", ";", "012345", "="};
        for (int i = 0; i < beginnings.length; i++) {
            SeamBeats x = new SeamBeats();
            for (int code = 33; code <= 126; code++) {
                x.clearBuffer();
                Check.type(x, beginnings[i]);
                x.append(code);
                int want = beginnings[i].length() + (follow[i].indexOf(code) >= 0 ? 1 : 0);
                Check.due("firstError() of " + beginnings[i] + (char) code, x.firstError(), want);
                if (code % 30 == 2) {
                    x = new SeamBeats();
                }
            }
        }
    }

    private static void putAll() {
        SeamBeats x = new SeamBeats();
        x.put(1, 9);
        Check.type(x, "0=5*4;1=99;0=7");
        Check.due("putAll()", x.putAll(), 7);
        long[][] want = {{1, 5}, {2, 5}, {3, 5}, {4, 5}, {6, 7}};
        for (int place = 0; place < want.length; place++) {
            Check.due("queue(0, " + place + ", 0)", x.queue(0, place, 0), want[place][0]);
            Check.due("queue(0, " + place + ", 1)", x.queue(0, place, 1), want[place][1]);
        }
        Check.due("room(0, 4)", x.room(0, 4), 5);
        Check.due("queue(1, 1, 0)", x.queue(1, 1, 0), 5);
        Check.due("queue(1, 1, 1)", x.queue(1, 1, 1), 99);
        Check.due("clearBuffer(): it is clear", x.clearBuffer(), 0);
        Check.due("count(11): as one call", x.count(11), 2);
        Check.due("undo()", x.undo(), 1);
        Check.due("count(2)", x.count(2), 1);
        Check.due("room(0, 4)", x.room(0, 4), 0);
        Check.due("clearBuffer() after undo", x.clearBuffer(), 0);
    }

    private static void putAllReadsEveryForm() {
        for (int room = 0; room < 6; room++) {
            int of = room;
            SeamBeats x = new SeamBeats();
            for (int value = 0; value < 100; value++) {
                if (value % 20 == 0) {
                    x = new SeamBeats();
                }
                Check.type(x, room + "=" + value);
                x.putAll();
                Check.due("queue of " + room + "=" + value, x.queue(of, 0, 1), value);
                Check.due("its items", x.room(of, 4), 1);
                x.run(1);
            }
        }
        for (int times = 2; times <= 8; times++) {
            SeamBeats x = new SeamBeats();
            Check.type(x, "2=0*" + times + ";3=10*" + times);
            Check.due("putAll()", x.putAll(), 2L * times);
            Check.due("room(2, 4)", x.room(2, 4), times);
            Check.due("room(3, 4)", x.room(3, 4), times);
            Check.due("queue(3, 0, 0)", x.queue(3, 0, 0), times);
            Check.due("queue(3, times - 1, 1)", x.queue(3, times - 1, 1), 10);
        }
        SeamBeats x = new SeamBeats();
        Check.type(x, "0=10;1=11;2=12;3=13;4=14;5=15;0=16;1=17;2=18;3=19;4=20;5=2*2");
        Check.due("putAll() of 60 characters but one", x.putAll(), 13);
    }

    private static void putAllRefusesTexts() {
        String[] bad = {"", "0", "0=", "0=1*", "0=1;", "0=1;2", "0=1;2=", "0=1*2;", "x", "0=1x", "0=01", "0=100",
            "0=1*1", "0=1*9", "0=1*22", ";0=1", "6=1", "0=1;;0=1", "0=1!", "-1=1"};
        for (String text : bad) {
            SeamBeats x = new SeamBeats();
            x.put(5, 5);
            Check.type(x, text);
            Check.badArgument(x, "putAll() of " + text, x::putAll);
            Check.due("the length of " + text, x.clearBuffer(), text.length());
        }
        SeamBeats x = new SeamBeats();
        Check.type(x, "0=1*8;0=1*");
        Check.badArgument(x, "putAll() neither complete nor with places", x::putAll);
    }

    private static void putAllIsAllOrNone() {
        SeamBeats x = new SeamBeats();
        Check.type(x, "1=4;0=1*8;0=2");
        Check.badState(x, "putAll() of nine", x::putAll);
        Check.due("count(2)", x.count(2), 0);
        Check.due("count(11)", x.count(11), 0);
        Check.due("clearBuffer(): it stays", x.clearBuffer(), 13);
        x.put(0, 1);
        Check.type(x, "0=1*8");
        Check.badState(x, "putAll() of eight to one", x::putAll);
        x.clearBuffer();
        Check.type(x, "0=1*7");
        Check.due("putAll() of seven to one", x.putAll(), 8);
        Check.type(x, "0=1");
        Check.badState(x, "putAll() of one to eight", x::putAll);
    }

    private static void bufferIsNotUndone() {
        SeamBeats x = new SeamBeats();
        Check.type(x, "0=");
        x.put(0, 1);
        Check.type(x, "1");
        Check.due("undo()", x.undo(), 0);
        Check.due("clearBuffer() after undo", x.clearBuffer(), 3);
    }

    private interface Step {
        void go(SeamBeats x);
    }

    private static void undoRestoresEveryKindOfCall() {
        Step[] steps = {x -> x.beat(1, 4, 2), x -> x.wake(0, false), x -> x.lose(3, 7), x -> x.seam(3, 4, 2, 2),
            x -> x.route(0, NONE), x -> x.route(0, 1), x -> x.put(0, 77), x -> x.run(1), x -> x.run(17), x -> x.run(99)};
        for (int i = 0; i < steps.length; i++) {
            SeamBeats x = new SeamBeats();
            x.seam(0, 1, 2, 2);
            x.seam(0, 2, 1, 3);
            x.seam(1, 2, 1, 1);
            x.lose(1, 2);
            x.beat(2, 3, 1);
            Check.type(x, "0=1*6;1=2*3");
            x.putAll();
            x.run(3);
            x.undo();
            x.run(4);
            x.undo();
            x.run(5);
            x.undo();
            long before = x.digest();
            int saved = x.count(11);
            steps[i].go(x);
            Check.dueTrue("step " + i + " changes the digest", x.digest() != before);
            Check.due("count(11) after the step " + i, x.count(11), saved + 1);
            Check.due("undo() of the step " + i, x.undo(), saved);
            Check.due("digest() after undo of the step " + i, x.digest(), before);
        }
    }

    private static void undoKeepsSix() {
        SeamBeats x = new SeamBeats();
        for (int i = 0; i < 10; i++) {
            x.put(i % 6, i);
            Check.due("count(11)", x.count(11), i < 6 ? i + 1 : 6);
        }
        for (int i = 5; i >= 0; i--) {
            Check.due("undo()", x.undo(), i);
            Check.due("count(2) after undo", x.count(2), 4 + i);
        }
        Check.badState(x, "undo() of the seventh", x::undo);
        Check.due("count(2)", x.count(2), 4);
        x.put(0, 1);
        x.run(1);
        Check.due("undo()", x.undo(), 1);
        x.wake(0, false);
        Check.due("undo() of the latest", x.undo(), 1);
        Check.due("undo()", x.undo(), 0);
        Check.due("count(2)", x.count(2), 4);
    }

    private static void refusedCallsSaveNothing() {
        SeamBeats x = new SeamBeats();
        x.put(0, 1);
        Check.badArgument(x, "beat(0, 9, 0)", () -> x.beat(0, 9, 0));
        Check.outOfBounds(x, "wake(9, true)", () -> x.wake(9, true));
        Check.badArgument(x, "run(0)", () -> x.run(0));
        Check.badArgument(x, "putAll()", x::putAll);
        Check.due("count(11)", x.count(11), 1);
        Check.due("undo()", x.undo(), 0);
        Check.due("count(2)", x.count(2), 0);
    }
}
