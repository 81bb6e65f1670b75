import java.util.StringJoiner;

/** What all tests share: telling answers that are not due, and looking at an object from outside. */
final class Checks {
    private static final long LONGEST_TEST = 300_000;

    private static int wrong = 0;

    static {
        Thread watch = new Thread(Checks::endWhatDoesNotEnd);
        watch.setDaemon(true);
        watch.start();
    }

    private Checks() {
    }

    /** A call that fails to end must fail its test. */
    private static void endWhatDoesNotEnd() {
        try {
            Thread.sleep(LONGEST_TEST);
        } catch (InterruptedException e) {
            return;
        }
        System.out.println("the test does not end");
        Runtime.getRuntime().halt(1);
    }

    static void same(String call, long got, long want) {
        if (got != want) {
            tell(call + " answered " + got + ", due is " + want);
        }
    }

    static void same(String call, String got, String want) {
        if (!got.equals(want)) {
            tell(call + " answered " + got + ", due is " + want);
        }
    }

    /** The call throws exactly this exception, and leaves the object as it was. */
    static void refuses(String call, LoafRounds x, Class<? extends RuntimeException> kind, Runnable run) {
        String before = lookOf(x);
        Class<?> thrown = null;
        try {
            run.run();
        } catch (RuntimeException e) {
            thrown = e.getClass();
        }
        if (thrown != kind) {
            tell(call + " throws " + (thrown == null ? "nothing" : thrown.getName()) + ", due is " + kind.getName());
        }
        same("what can be seen behind " + call, lookOf(x), before);
    }

    static void noPlace(String call, LoafRounds x, Runnable run) {
        refuses(call, x, IndexOutOfBoundsException.class, run);
    }

    static void noArgument(String call, LoafRounds x, Runnable run) {
        refuses(call, x, IllegalArgumentException.class, run);
    }

    static void noState(String call, LoafRounds x, Runnable run) {
        refuses(call, x, IllegalStateException.class, run);
    }

    private static void tell(String message) {
        wrong++;
        System.out.println(message);
    }

    static void end() {
        System.out.println(wrong == 0 ? "all answers are as due" : wrong + " answers are not as due");
        if (wrong != 0) {
            System.exit(1);
        }
    }

    static LoafRounds withText(String text) {
        LoafRounds x = new LoafRounds();
        write(x, text);
        return x;
    }

    static void write(LoafRounds x, String text) {
        x.clearText();
        for (int i = 0; i < text.length(); i++) {
            x.append(text.charAt(i));
        }
    }

    /** All that can be asked without a change: the state, what is ahead, and the text's error. */
    static String lookOf(LoafRounds x) {
        StringJoiner look = new StringJoiner(" ");
        for (int what = 0; what <= 12; what++) {
            look.add("a" + x.about(what));
        }
        for (int what = 0; what <= 4; what++) {
            look.add("s" + x.setting(what));
        }
        for (int s = 0; s < 4; s++) {
            look.add("r" + x.round(s));
            for (int w = 0; w < 7; w++) {
                look.add("" + x.isClosed(s, w));
            }
        }
        for (int c = 0; c < x.about(0); c++) {
            look.add(lookOf(x, c));
        }
        return look.add("e" + x.errorPosition()).toString();
    }

    private static String lookOf(LoafRounds x, int c) {
        StringJoiner look = new StringJoiner(" ", "[", "]");
        for (int what = 0; what <= 10; what++) {
            look.add("" + x.customerOf(c, what));
        }
        for (int w = 0; w < 7; w++) {
            look.add("o" + x.ordered(c, w));
        }
        for (int k = 0; k < 3; k++) {
            look.add("h" + x.away(c, k, 0) + "-" + x.away(c, k, 1));
        }
        return look.add("y" + x.why(c)).toString();
    }
}
