/** What the tests share: comparing answers, and counting those that are not as due. */
final class Check {
    interface Call {
        long answer();
    }

    private static final int SHOWN = 40;
    private static int wrong = 0;
    private static int checks = 0;
    private static String sentence = "";

    private Check() {
    }

    /** The words of the document, at times shortened, that the checks from here on are about: told with what is wrong. */
    static void says(String words) {
        sentence = "\"" + words + "\": ";
    }

    static void due(String call, long got, long want) {
        checks++;
        if (got != want) {
            tell(call + " answered " + got + ", due is " + want);
        }
    }

    static void dueDouble(String call, double got, double want) {
        checks++;
        if (Double.doubleToLongBits(got) != Double.doubleToLongBits(want)) {
            tell(call + " answered " + got + ", due is " + want);
        }
    }

    static void dueTrue(String what, boolean holds) {
        checks++;
        if (!holds) {
            tell(what);
        }
    }

    /** The call throws just this class, no class below it, as the machine would, and changes nothing. */
    static void refused(SeamBeats x, String call, Class<?> want, Call made) {
        long before = x.digest();
        String got = outcome(made);
        checks++;
        if (!got.equals(want.getName())) {
            tell(call + " answered " + got + ", due is " + want.getName());
        }
        due("digest() after " + call, x.digest(), before);
    }

    static void outOfBounds(SeamBeats x, String call, Call made) {
        refused(x, call, IndexOutOfBoundsException.class, made);
    }

    static void badArgument(SeamBeats x, String call, Call made) {
        refused(x, call, IllegalArgumentException.class, made);
    }

    static void badState(SeamBeats x, String call, Call made) {
        refused(x, call, IllegalStateException.class, made);
    }

    /** The call changes nothing, and answers this. */
    static void look(SeamBeats x, String call, long want, Call made) {
        long before = x.digest();
        due(call, made.answer(), want);
        due("digest() after " + call, x.digest(), before);
    }

    /** The answer as a text, or the name of the class that is thrown. */
    static String outcome(Call made) {
        try {
            return Long.toString(made.answer());
        } catch (RuntimeException thrown) {
            return thrown.getClass().getName();
        }
    }

    static void type(SeamBeats x, String text) {
        for (int i = 0; i < text.length(); i++) {
            x.append(text.charAt(i));
        }
    }

    static void tell(String line) {
        wrong++;
        if (wrong <= SHOWN) {
            System.out.println(sentence + line);
        }
    }

    static void end() {
        System.out.println(checks + " checks, " + wrong + " wrong");
        if (wrong != 0) {
            System.exit(1);
        }
    }
}
