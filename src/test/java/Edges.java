import java.util.ArrayList;
import java.util.HashMap;
import java.util.List;
import java.util.Map;
import java.util.function.Supplier;

/** What the tests of boundary cases share: the sentence that is tested, ranges, and calls that change nothing. */
final class Edges {
    /** A call on an object. */
    interface Call {
        int on(LoafRounds x);
    }

    /** A call on an object with a number that has a range. */
    interface NumberCall {
        int on(LoafRounds x, int n);
    }

    static final Class<IndexOutOfBoundsException> PLACE = IndexOutOfBoundsException.class;
    static final Class<IllegalArgumentException> ARGUMENT = IllegalArgumentException.class;
    static final Class<IllegalStateException> STATE = IllegalStateException.class;

    static final Supplier<LoafRounds> NEW = LoafRounds::new;
    static final Supplier<LoafRounds> BUSY = Edges::busy;
    static final Supplier<LoafRounds> FULL = Edges::full;

    private static final int REMEMBERED = 14;
    private static final Map<Supplier<LoafRounds>, List<String>> UNTOUCHED = new HashMap<>();

    private static Document document;
    private static String sentence = "";

    private Edges() {
    }

    static void open(Document of) {
        document = of;
    }

    /** What follows, up to the next call, tests this sentence. */
    static void sentence(int promise, String words) {
        sentence = promise == Document.BEFORE ? "'" + words + "': " : "promise " + promise + ", '" + words + "': ";
        if (!document.quote(promise, words)) {
            Checks.same(sentence + "in the document", 0, 1);
        }
    }

    static void is(String call, long got, long want) {
        Checks.same(sentence + call, got, want);
    }

    static void looks(String call, LoafRounds x, LoafRounds want) {
        Checks.same(sentence + "what can be seen " + call, Checks.lookOf(x), Checks.lookOf(want));
    }

    /** Some numbers of an object, all at once: {what, want, what, want, ..}. */
    static void about(String call, LoafRounds x, int... pairs) {
        for (int i = 0; i + 1 < pairs.length; i += 2) {
            is("about(" + pairs[i] + ") of " + call, x.about(pairs[i]), pairs[i + 1]);
        }
    }

    /** Some numbers of a customer, all at once: {what, want, what, want, ..}. */
    static void customerOf(String call, LoafRounds x, int c, int... pairs) {
        for (int i = 0; i + 1 < pairs.length; i += 2) {
            is("customerOf(" + c + ", " + pairs[i] + ") of " + call, x.customerOf(c, pairs[i]), pairs[i + 1]);
        }
    }

    // ---- calls that are refused, and calls that change nothing

    static void allowed(Supplier<LoafRounds> made, String told, Call call) {
        Checks.same(sentence + told + " throws", thrownBy(made.get(), call), "nothing");
    }

    /** The call throws exactly this, and nothing is different behind it. */
    static void refused(Class<?> kind, Supplier<LoafRounds> made, String told, Call call) {
        Checks.same(sentence + told + " throws", thrownBy(made.get(), call), kind.getName());
        changesNothing(made, told, call);
    }

    /** The first and the last number are allowed; those beside them and far off are refused. */
    static void range(Class<?> kind, Supplier<LoafRounds> made, String told, int least, int greatest,
            NumberCall call) {
        for (int n : new int[] {least, greatest}) {
            allowed(made, told.replace("#", "" + n), x -> call.on(x, n));
        }
        for (int n : new int[] {least - 1, greatest + 1, Integer.MIN_VALUE, Integer.MAX_VALUE}) {
            refused(kind, made, told.replace("#", "" + n), x -> call.on(x, n));
        }
    }

    /** The state, the states remembered, the save slots and the text are as without the call. */
    static void changesNothing(Supplier<LoafRounds> made, String told, Call call) {
        List<String> want = UNTOUCHED.computeIfAbsent(made, m -> tracesOf(m, x -> 0));
        List<String> got = tracesOf(made, call);
        for (int i = 0; i < want.size(); i++) {
            Checks.same(sentence + "trace " + i + " behind " + told, got.get(i), want.get(i));
        }
    }

    private static String thrownBy(LoafRounds x, Call call) {
        try {
            call.on(x);
            return "nothing";
        } catch (RuntimeException e) {
            return e.getClass().getName();
        }
    }

    /** Each trace is of an object of its own, since what shows it, such as undo, changes the object. */
    private static List<String> tracesOf(Supplier<LoafRounds> made, Call call) {
        List<String> traces = new ArrayList<>();
        for (int i = 0; i <= REMEMBERED; i++) {
            int undone = i;
            traces.add(traceOf(made, call, x -> undoSome(x, undone)));
        }
        traces.add(traceOf(made, call, x -> x.restore(0)));
        traces.add(traceOf(made, call, x -> x.restore(1)));
        traces.add(traceOf(made, call, LoafRounds::clearText));
        traces.add(traceOf(made, call, LoafRounds::load));
        return traces;
    }

    private static String traceOf(Supplier<LoafRounds> made, Call call, Call show) {
        LoafRounds x = made.get();
        thrownBy(x, call);
        String shown;
        try {
            shown = "" + show.on(x);
        } catch (IllegalStateException e) {
            shown = "none";
        }
        return shown + " " + Checks.lookOf(x);
    }

    private static int undoSome(LoafRounds x, int times) {
        int left = -1;
        for (int i = 0; i < times; i++) {
            left = x.undo();
        }
        return left;
    }

    // ---- objects

    /** Four customers, credits, a closed street, both slots, a text, and more actions than are remembered. */
    private static LoafRounds busy() {
        LoafRounds x = Checks.withText("Bc11111111d03");
        x.customer(1, 3333333);
        x.customer(0, 2222222);
        x.customer(2, 9999999);
        x.close(2, 0, true);
        x.set(0, 7);
        x.days(1);
        x.save(0);
        x.holiday(1, 2, 4);
        x.holiday(0, 3, 3);
        x.holiday(0, 9, 12);
        x.swap(0, 3);
        x.days(2);
        x.save(1);
        x.change(0, 5, 9);
        x.set(1, 4);
        x.set(0, 12);
        x.customer(3, 1234567);
        x.close(1, 6, true);
        x.close(1, 5, true);
        x.set(4, 5);
        x.days(1);
        return x;
    }

    /** Ten customers, the first and the last with three holidays, a text of 120 characters, both slots. */
    private static LoafRounds full() {
        LoafRounds x = Checks.withText(fullText());
        for (int c = 0; c < 10; c++) {
            x.customer(c % 4, 9999999 - 1111111 * (c % 5));
        }
        for (int day = 1; day <= 3; day++) {
            x.holiday(0, day, day + 7);
            x.holiday(9, 999 - day, 999);
        }
        x.save(0);
        x.days(2);
        x.save(1);
        return x;
    }

    /** A book of as many characters as there can be. */
    static String fullText() {
        return "B" + "v01".repeat(37) + "x00+x11+";
    }
}
