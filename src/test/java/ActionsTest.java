/** Promises 14 to 22: customer, change, holiday, drop, close, swap, set, days, undo. */
public final class ActionsTest {
    public static void main(String[] args) {
        customer();
        change();
        holiday();
        drop();
        close();
        swap();
        set();
        daysHandOutInTheOrderOfTheRound();
        daysMakeGood();
        daysPayBack();
        daysBake();
        daysRefuse();
        undo();
        undoTakesBackEachAction();
        refusedCallsAreNoActions();
        Checks.end();
    }

    private static void customer() {
        LoafRounds x = new LoafRounds();
        Checks.noPlace("customer(4, 0)", x, () -> x.customer(4, 0));
        Checks.noPlace("customer(-1, 0)", x, () -> x.customer(-1, 0));
        Checks.noPlace("customer(4, -1)", x, () -> x.customer(4, -1));
        Checks.noArgument("customer(0, -1)", x, () -> x.customer(0, -1));
        Checks.noArgument("customer(0, 10000000)", x, () -> x.customer(0, 10000000));
        for (int c = 0; c < 10; c++) {
            Checks.same("customer(" + c % 4 + ", 9999999)", x.customer(c % 4, 9999999 - c), c);
            Checks.same("the street", x.customerOf(c, 0), c % 4);
            Checks.same("loaves for weekday 6", x.ordered(c, 6), 9 - c);
        }
        Checks.noState("customer(0, 0) more than 10", x, () -> x.customer(0, 0));
        Checks.noArgument("customer(0, 10000000) more than 10", x, () -> x.customer(0, 10000000));
        Checks.noPlace("customer(4, 10000000) more than 10", x, () -> x.customer(4, 10000000));
        LoafRounds y = new LoafRounds();
        y.customer(0, 7654321);
        y.holiday(0, 3, 4);
        y.close(0, 0, true);
        y.days(3);
        y.undo();
        y.undo();
        y.undo();
        y.undo();
        Checks.same("customer(1, 5) where one was", y.customer(1, 5), 0);
        Checks.same("its holidays", y.customerOf(0, 8), 0);
        Checks.same("its credit", y.customerOf(0, 2), 0);
        Checks.same("its loaves", y.customerOf(0, 1), 5);
    }

    private static void change() {
        LoafRounds x = new LoafRounds();
        x.customer(0, 1234567);
        Checks.same("change(0, 2, 9)", x.change(0, 2, 9), 3);
        Checks.same("change(0, 2, 0)", x.change(0, 2, 0), 9);
        Checks.same("ordered(0, 2)", x.ordered(0, 2), 0);
        Checks.same("ordered(0, 3)", x.ordered(0, 3), 4);
        Checks.noPlace("change(1, 0, 0)", x, () -> x.change(1, 0, 0));
        Checks.noPlace("change(-1, 0, 0)", x, () -> x.change(-1, 0, 0));
        Checks.noPlace("change(0, 7, 0)", x, () -> x.change(0, 7, 0));
        Checks.noPlace("change(0, -1, 10)", x, () -> x.change(0, -1, 10));
        Checks.noArgument("change(0, 0, 10)", x, () -> x.change(0, 0, 10));
        Checks.noArgument("change(0, 0, -1)", x, () -> x.change(0, 0, -1));
    }

    private static void holiday() {
        LoafRounds x = new LoafRounds();
        x.customer(0, 1111111);
        Checks.noPlace("holiday(1, 0, 0)", x, () -> x.holiday(1, 0, 0));
        Checks.noPlace("holiday(-1, 5, 4)", x, () -> x.holiday(-1, 5, 4));
        Checks.noArgument("holiday(0, -1, 0)", x, () -> x.holiday(0, -1, 0));
        Checks.noArgument("holiday(0, 1000, 1000)", x, () -> x.holiday(0, 1000, 1000));
        Checks.noArgument("holiday(0, 5, 4)", x, () -> x.holiday(0, 5, 4));
        Checks.noArgument("holiday(0, 5, 1000)", x, () -> x.holiday(0, 5, 1000));
        x.days(4);
        Checks.same("holiday(0, 0, 1) that is over", x.holiday(0, 0, 1), 1);
        Checks.same("holiday(0, 1, 6)", x.holiday(0, 1, 6), 2);
        Checks.same("holiday(0, 999, 999)", x.holiday(0, 999, 999), 3);
        Checks.noState("holiday(0, 0, 0) more than 3", x, () -> x.holiday(0, 0, 0));
        Checks.noArgument("holiday(0, 5, 4) more than 3", x, () -> x.holiday(0, 5, 4));
        Checks.noPlace("holiday(1, 5, 4) more than 3", x, () -> x.holiday(1, 5, 4));
        Checks.same("days(4) to the holiday's end", x.days(4), 1);
        Checks.same("nothing is due today but behind the holiday", x.about(12), 1);
    }

    private static void drop() {
        LoafRounds x = new LoafRounds();
        x.customer(0, 1);
        x.holiday(0, 1, 2);
        x.holiday(0, 3, 4);
        x.holiday(0, 5, 6);
        Checks.noPlace("drop(0, 3)", x, () -> x.drop(0, 3));
        Checks.noPlace("drop(0, -1)", x, () -> x.drop(0, -1));
        Checks.noPlace("drop(1, 0)", x, () -> x.drop(1, 0));
        Checks.noPlace("drop(-1, 0)", x, () -> x.drop(-1, 0));
        Checks.same("drop(0, 0)", x.drop(0, 0), 2);
        Checks.same("away(0, 0, 0)", x.away(0, 0, 0), 3);
        Checks.same("away(0, 0, 1)", x.away(0, 0, 1), 4);
        Checks.same("away(0, 1, 0)", x.away(0, 1, 0), 5);
        Checks.same("away(0, 1, 1)", x.away(0, 1, 1), 6);
        Checks.same("away(0, 2, 0)", x.away(0, 2, 0), -1);
        Checks.same("drop(0, 1)", x.drop(0, 1), 1);
        Checks.same("away(0, 0, 0)", x.away(0, 0, 0), 3);
        Checks.noPlace("drop(0, 1)", x, () -> x.drop(0, 1));
        Checks.same("drop(0, 0)", x.drop(0, 0), 0);
        Checks.noPlace("drop(0, 0)", x, () -> x.drop(0, 0));
    }

    private static void close() {
        LoafRounds x = new LoafRounds();
        Checks.same("close(1, 0, true)", x.close(1, 0, true), 1);
        Checks.same("close(1, 6, true)", x.close(1, 6, true), 2);
        Checks.same("close(1, 6, true) again", x.close(1, 6, true), 2);
        Checks.same("close(2, 0, true)", x.close(2, 0, true), 1);
        Checks.same("close(1, 0, false)", x.close(1, 0, false), 1);
        Checks.same("close(1, 5, false) that is open", x.close(1, 5, false), 1);
        Checks.same("isClosed(1, 0)", x.isClosed(1, 0), 0);
        Checks.same("isClosed(1, 6)", x.isClosed(1, 6), 1);
        Checks.noPlace("close(4, 0, true)", x, () -> x.close(4, 0, true));
        Checks.noPlace("close(-1, 0, true)", x, () -> x.close(-1, 0, true));
        Checks.noPlace("close(0, 7, true)", x, () -> x.close(0, 7, true));
        Checks.noPlace("close(0, -1, false)", x, () -> x.close(0, -1, false));
    }

    private static void swap() {
        LoafRounds x = new LoafRounds();
        Checks.same("swap(0, 2)", x.swap(0, 2), 2);
        Checks.same("swap(0, 3)", x.swap(0, 3), 3);
        Checks.same("swap(1, 1)", x.swap(1, 1), 1);
        int[] round = {2, 1, 3, 0};
        for (int place = 0; place < 4; place++) {
            Checks.same("round(" + place + ")", x.round(place), round[place]);
        }
        Checks.noPlace("swap(4, 0)", x, () -> x.swap(4, 0));
        Checks.noPlace("swap(-1, 0)", x, () -> x.swap(-1, 0));
        Checks.noPlace("swap(0, 4)", x, () -> x.swap(0, 4));
        Checks.noPlace("swap(0, -1)", x, () -> x.swap(0, -1));
        Checks.same("undo() of the swap of a street with itself", x.undo(), 2);
    }

    private static void set() {
        LoafRounds x = new LoafRounds();
        int[] least = {0, 0, 0, 0, 1};
        int[] greatest = {99, 9, 9, 30, 20};
        int[] first = {30, 1, 2, 10, 3};
        for (int i = 0; i < 5; i++) {
            int what = i;
            int below = least[i] - 1;
            int above = greatest[i] + 1;
            Checks.noArgument("set(" + i + ", " + below + ")", x, () -> x.set(what, below));
            Checks.noArgument("set(" + i + ", " + above + ")", x, () -> x.set(what, above));
            Checks.same("set(" + i + ", " + least[i] + ")", x.set(i, least[i]), first[i]);
            Checks.same("set(" + i + ", " + greatest[i] + ")", x.set(i, greatest[i]), least[i]);
            Checks.same("setting(" + i + ")", x.setting(i), greatest[i]);
        }
        Checks.noArgument("set(5, 1)", x, () -> x.set(5, 1));
        Checks.noArgument("set(-1, 1)", x, () -> x.set(-1, 1));
    }

    private static void daysHandOutInTheOrderOfTheRound() {
        LoafRounds x = new LoafRounds();
        x.customer(1, 5000000);
        x.customer(3, 5000000);
        x.customer(1, 5000000);
        x.swap(0, 3);
        x.set(0, 12);
        // 12 loaves: 5 for street 3, then in street 1 5 for customer 0 and 2 for customer 2.
        Checks.same("days(1)", x.days(1), 12);
        Checks.same("got by 0", x.customerOf(0, 3), 5);
        Checks.same("got by 1", x.customerOf(1, 3), 5);
        Checks.same("got by 2", x.customerOf(2, 3), 2);
        Checks.same("short ones of 2", x.customerOf(2, 7), 1);
        Checks.same("missed by 2", x.customerOf(2, 6), 0);
        Checks.same("credit of 2", x.customerOf(2, 2), 3);
        Checks.same("coins paid", x.about(8), 45);
        x.undo();
        x.set(0, 10);
        Checks.same("days(1)", x.days(1), 10);
        Checks.same("short ones of 2", x.customerOf(2, 7), 0);
        Checks.same("missed by 2", x.customerOf(2, 6), 1);
    }

    private static void daysMakeGood() {
        LoafRounds x = new LoafRounds();
        x.customer(0, 5000000);
        x.customer(1, 4000000);
        x.set(0, 0);
        x.days(1);
        Checks.same("credits", x.about(6), 9);
        x.set(0, 99);
        x.set(1, 3);
        x.holiday(0, 2, 2);
        x.close(1, 3, true);
        // Day 1: 3 to spare: 2 for customer 0, as setting 2 says, and 1 for customer 1.
        Checks.same("days(1)", x.days(1), 3);
        Checks.same("credit of 0", x.customerOf(0, 2), 3);
        Checks.same("credit of 1", x.customerOf(1, 2), 3);
        Checks.same("stale", x.about(5), 0);
        // Day 2: customer 0 is away; day 3: street 1 is closed.
        Checks.same("days(1)", x.days(1), 2);
        Checks.same("credit of 0", x.customerOf(0, 2), 3);
        Checks.same("credit of 1", x.customerOf(1, 2), 1);
        Checks.same("days(1)", x.days(1), 2);
        Checks.same("credit of 0", x.customerOf(0, 2), 1);
        Checks.same("credit of 1", x.customerOf(1, 2), 1);
        Checks.same("stale", x.about(5), 2);
        Checks.same("days(1)", x.days(1), 2);
        Checks.same("credits", x.about(6), 0);
        Checks.same("made good", x.about(4), 9);
        Checks.same("made good for 0", x.customerOf(0, 4), 5);
        Checks.same("got of what was due", x.about(3), 0);
        Checks.same("stale", x.about(5), 3);
        x.swap(0, 1);
        x.set(0, 0);
        x.days(3);
        x.set(0, 99);
        x.set(1, 1);
        Checks.same("days(1)", x.days(1), 1);
        Checks.same("the credit of the first street is made good first", x.customerOf(1, 2), 3);
        x.set(2, 0);
        Checks.same("days(1) with setting 2 at 0", x.days(1), 0);
    }

    private static void daysPayBack() {
        LoafRounds x = new LoafRounds();
        x.customer(0, 9990000);
        x.set(0, 0);
        x.set(4, 7);
        x.days(1);
        Checks.same("credit", x.customerOf(0, 2), 9);
        x.set(3, 9);
        x.days(1);
        Checks.same("credit", x.customerOf(0, 2), 9);
        Checks.same("paid back", x.customerOf(0, 5), 9);
        Checks.same("coins paid back", x.about(9), 63);
        x.set(3, 4);
        x.set(4, 2);
        Checks.same("a credit is cut by no setting", x.customerOf(0, 2), 9);
        x.days(1);
        Checks.same("credit", x.customerOf(0, 2), 4);
        Checks.same("paid back", x.about(7), 23);
        Checks.same("coins paid back", x.about(9), 63 + 28);
        Checks.same("coins paid", x.about(8), 63 + 63 + 18);
        x.set(3, 0);
        x.days(1);
        Checks.same("credit", x.customerOf(0, 2), 0);
        Checks.same("coins paid back", x.about(9), 63 + 28 + 8);
        Checks.same("missed", x.about(10), 3);
    }

    private static void daysBake() {
        LoafRounds x = new LoafRounds();
        Checks.same("days(60) without customers", x.days(60), 0);
        Checks.same("baked", x.about(2), 60);
        Checks.same("stale", x.about(5), 60);
        Checks.same("today", x.about(1), 60);
        x.set(1, 9);
        x.set(0, 8);
        x.days(1);
        Checks.same("baked", x.about(2), 68);
        x.customer(0, 9999999);
        x.close(0, 5, true);
        x.set(0, 99);
        Checks.same("days(1) with the street closed", x.days(1), 0);
        Checks.same("baked for a closed street too", x.about(2), 68 + 18);
        Checks.same("a closed street's drop is missed", x.about(10), 1);
        Checks.same("a closed street's customers pay", x.about(8), 27);
    }

    private static void daysRefuse() {
        LoafRounds x = new LoafRounds();
        Checks.noArgument("days(0)", x, () -> x.days(0));
        Checks.noArgument("days(61)", x, () -> x.days(61));
        Checks.noArgument("days(-1)", x, () -> x.days(-1));
        Checks.same("days(1)", x.days(1), 0);
        Checks.same("days(60)", x.days(60), 0);
        Checks.same("today", x.about(1), 61);
    }

    private static void undo() {
        LoafRounds x = new LoafRounds();
        for (int i = 0; i < 16; i++) {
            x.set(0, i);
        }
        for (int i = 13; i >= 0; i--) {
            Checks.same("undo()", x.undo(), i);
            Checks.same("setting(0)", x.setting(0), i + 1);
        }
        Checks.noState("undo()", x, x::undo);
        x.set(0, 50);
        x.set(0, 50);
        Checks.same("undo() of what changed nothing", x.undo(), 1);
        x.set(0, 60);
        Checks.same("undo()", x.undo(), 1);
        Checks.same("setting(0)", x.setting(0), 50);
        Checks.same("undo()", x.undo(), 0);
        Checks.same("setting(0)", x.setting(0), 1);
        Checks.noState("undo()", x, x::undo);
    }

    private static void undoes(LoafRounds x, String call, Runnable run) {
        String before = Checks.lookOf(x);
        run.run();
        x.undo();
        Checks.same("what can be seen behind undo of " + call, Checks.lookOf(x), before);
    }

    private static void undoTakesBackEachAction() {
        LoafRounds x = Checks.withText("Bc19876543c21111111c11010101h00104h12020h10304x11+v12s005");
        x.load();
        x.days(5);
        undoes(x, "customer", () -> x.customer(3, 1234567));
        undoes(x, "change", () -> x.change(1, 3, 8));
        undoes(x, "holiday", () -> x.holiday(2, 0, 100));
        undoes(x, "drop", () -> x.drop(1, 0));
        undoes(x, "close", () -> x.close(0, 0, true));
        undoes(x, "swap", () -> x.swap(0, 3));
        undoes(x, "set", () -> x.set(2, 9));
        undoes(x, "days", () -> x.days(60));
        x.save(0);
        x.clearText();
        x.append('B');
        x.days(3);
        x.undo();
        Checks.same("undo leaves the text", x.clearText(), 1);
        Checks.same("undo leaves the save slots", x.restore(0), 5);
    }

    private static void refusedCallsAreNoActions() {
        LoafRounds x = new LoafRounds();
        x.customer(0, 1);
        Checks.noPlace("customer", x, () -> x.customer(9, 0));
        Checks.noArgument("change", x, () -> x.change(0, 0, 10));
        Checks.noArgument("holiday", x, () -> x.holiday(0, 2, 1));
        Checks.noPlace("drop", x, () -> x.drop(0, 0));
        Checks.noPlace("close", x, () -> x.close(0, 7, true));
        Checks.noPlace("swap", x, () -> x.swap(0, 4));
        Checks.noArgument("set", x, () -> x.set(4, 0));
        Checks.noArgument("days", x, () -> x.days(0));
        Checks.same("undo()", x.undo(), 0);
        Checks.same("customers", x.about(0), 0);
    }
}
