import java.nio.charset.StandardCharsets;

/** What all tests use: a count of wrong answers, texts fed to an object, and calls that are due to throw. */
final class Check {
    interface Call {
        Object answer();
    }

    private static int made = 0;
    private static int wrong = 0;
    private static String words = "";

    private Check() {
    }

    /** What follows is for these words of the document; SentenceTest looks whether all its words have a test. */
    static void sentence(String quoted) {
        words = "[" + quoted + "] ";
    }

    static void due(String call, long got, long want) {
        made++;
        if (got != want) {
            wrong++;
            if (wrong <= 40) {
                System.out.println(words + call + " answered " + got + ", due is " + want);
            }
        }
    }

    static void due(String call, String got, String want) {
        made++;
        if (!got.equals(want)) {
            wrong++;
            if (wrong <= 40) {
                System.out.println(words + call + " is\n  " + got + "\n, due is\n  " + want);
            }
        }
    }

    static void due(String call, boolean got, boolean want) {
        due(call, got ? 1 : 0, want ? 1 : 0);
    }

    /** The call is due to throw just this class, not one below it, and by a throw statement of the program. */
    static void thrown(String call, Class<? extends RuntimeException> want, Call made) {
        String got = "nothing";
        try {
            made.answer();
        } catch (RuntimeException e) {
            got = e.getClass().getName() + byProgram(e);
        }
        due(call + " threw " + got + ", due " + want.getName() + ":", got.equals(want.getName()), true);
    }

    static String byProgram(RuntimeException e) {
        StackTraceElement[] trace = e.getStackTrace();
        return trace.length > 0 && trace[0].getClassName().startsWith("LitNextDoor") ? "" : " of the machine";
    }

    /** Feeds a text, as the object takes it, filled up with blanks. */
    static void feed(LitNextDoor x, byte[] text) {
        for (int at = 0; at < text.length; at += 20) {
            int[] five = new int[5];
            for (int i = 0; i < 20; i++) {
                int b = at + i < text.length ? text[at + i] & 255 : 32;
                five[i / 4] = five[i / 4] << 8 | b;
            }
            x.feed(five[0], five[1], five[2], five[3], five[4]);
        }
    }

    static int house(LitNextDoor x, String text) {
        byte[] bytes = text.getBytes(StandardCharsets.ISO_8859_1);
        feed(x, bytes);
        return x.house(bytes.length);
    }

    static LitNextDoor built(String text) {
        LitNextDoor x = new LitNextDoor();
        int lines = house(x, text);
        due("house of " + text + " has no fault", lines >= 0, true);
        return x;
    }

    static void end(String name) {
        System.out.println(name + ": " + made + " answers, " + wrong + " of them not as due");
        if (wrong != 0 || made == 0) {
            System.exit(1);
        }
    }
}
