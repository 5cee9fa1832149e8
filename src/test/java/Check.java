import java.nio.charset.StandardCharsets;

/** What the tests share: answers compared with those that are due, refusals, and texts put on the tape. */
final class Check {
    private static int asked = 0;
    private static int wrong = 0;
    private static int sentences = 0;
    private static String about = "";

    private Check() {
    }

    /** What follows tests this sentence of the document; it is told with each answer that is not as due. */
    static void sentence(String where, String words) {
        if (sentences == 0) {
            Thread.setDefaultUncaughtExceptionHandler((thread, e) -> tellThrown(e));
        }
        sentences++;
        about = where + " \"" + words + "\": ";
    }

    private static void tellThrown(Throwable e) {
        System.out.println(about + "a call threw that should answer");
        e.printStackTrace();
    }

    static void due(String call, long got, long want) {
        asked++;
        if (got != want) {
            wrong++;
            System.out.println(about + call + " answered " + got + ", due is " + want);
        }
    }

    /** The call must throw just this class; what the machine throws is never of the same one. */
    static void refused(String call, Class<? extends RuntimeException> want, Runnable run) {
        asked++;
        RuntimeException got = thrownBy(run);
        if (got == null || got.getClass() != want) {
            wrong++;
            System.out.println(about + call + " threw " + got + ", due is " + want.getName());
        }
    }

    static void unknown(String call, Runnable run) {
        refused(call, IllegalArgumentException.class, run);
    }

    static void range(String call, Runnable run) {
        refused(call, IndexOutOfBoundsException.class, run);
    }

    static void state(String call, Runnable run) {
        refused(call, IllegalStateException.class, run);
    }

    static void noRoom(String call, Runnable run) {
        refused(call, UnsupportedOperationException.class, run);
    }

    static RuntimeException thrownBy(Runnable run) {
        try {
            run.run();
            return null;
        } catch (RuntimeException e) {
            return e;
        }
    }

    /** The numbers next to a range, and the farthest ones. */
    static int[] outside(int low, int high) {
        return new int[] {low - 1, high + 1, Integer.MIN_VALUE, Integer.MAX_VALUE};
    }

    /** Puts a text (characters 0 to 255) on the tape, in pieces of up to eight bytes. */
    static void tape(CrewRules x, String text) {
        byte[] bytes = text.getBytes(StandardCharsets.ISO_8859_1);
        for (int i = 0; i < bytes.length; i += 8) {
            int n = Math.min(8, bytes.length - i);
            long piece = 0;
            for (int k = 0; k < n; k++) {
                piece = piece << 8 | bytes[i + k] & 0xff;
            }
            x.sign(piece, n);
        }
    }

    static void right(CrewRules x, String text, int rules) {
        tape(x, text);
        due("read() of '" + text + "'", x.read(), rules);
        due("place() after '" + text + "'", x.place(), -1);
    }

    static void wrongAt(CrewRules x, String text, int place) {
        tape(x, text);
        state("read() of '" + text + "'", x::read);
        due("place() after '" + text + "'", x.place(), place);
    }

    static void right(String text, int rules) {
        right(new CrewRules(), text, rules);
    }

    static void wrongAt(String text, int place) {
        wrongAt(new CrewRules(), text, place);
    }

    static CrewRules with(String text) {
        CrewRules x = new CrewRules();
        tape(x, text);
        x.read();
        return x;
    }

    static void end() {
        String of = sentences == 0 ? "" : " on " + sentences + " sentences";
        System.out.println(asked + " answers" + of + " looked at, " + wrong + " not as due");
        if (wrong != 0 || asked == 0) {
            System.exit(1);
        }
    }
}
