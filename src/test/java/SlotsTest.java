/** Promises 30 and 31: save and restore. */
public final class SlotsTest {
    public static void main(String[] args) {
        saveAndRestore();
        whatRestoreBrings();
        refusals();
        Checks.end();
    }

    private static void saveAndRestore() {
        LoafRounds x = new LoafRounds();
        x.customer(2, 7654321);
        x.days(3);
        Checks.same("save(0)", x.save(0), 3);
        x.days(4);
        Checks.same("save(1)", x.save(1), 7);
        x.days(5);
        Checks.same("restore(0)", x.restore(0), 3);
        Checks.same("today", x.about(1), 3);
        Checks.noState("undo behind restore", x, x::undo);
        x.days(60);
        Checks.same("restore(0) once more", x.restore(0), 3);
        Checks.same("restore(1)", x.restore(1), 7);
        x.days(1);
        Checks.same("save(1) again", x.save(1), 8);
        Checks.same("undo() behind save", x.undo(), 0);
        Checks.same("today", x.about(1), 7);
        Checks.same("restore(1)", x.restore(1), 8);
    }

    private static void whatRestoreBrings() {
        LoafRounds x = Checks.withText("Bc19876543c21111111h00104h12020x11+v12s005");
        x.load();
        x.days(9);
        x.save(0);
        String saved = Checks.lookOf(x);
        x.customer(0, 9999999);
        x.change(0, 0, 0);
        x.holiday(0, 50, 60);
        x.drop(1, 0);
        x.close(3, 3, true);
        x.swap(0, 3);
        x.set(4, 20);
        x.days(20);
        Checks.write(x, "Bc19876543c21111111h00104h12020x11+v12s00");
        Checks.same("restore(0)", x.restore(0), 9);
        Checks.same("clearText() behind restore", x.clearText(), 41);
        Checks.write(x, "Bv12");
        Checks.same("what can be seen behind restore", Checks.lookOf(x), saved);
    }

    private static void refusals() {
        LoafRounds x = new LoafRounds();
        x.days(1);
        Checks.noPlace("save(2)", x, () -> x.save(2));
        Checks.noPlace("save(-1)", x, () -> x.save(-1));
        Checks.noPlace("restore(2)", x, () -> x.restore(2));
        Checks.noPlace("restore(-1)", x, () -> x.restore(-1));
        Checks.noState("restore(0)", x, () -> x.restore(0));
        x.save(0);
        Checks.noState("restore(1)", x, () -> x.restore(1));
        Checks.same("undo() behind a refused restore", x.undo(), 0);
        x.append('B');
        x.load();
        Checks.noState("restore(0) behind load", x, () -> x.restore(0));
        x.save(1);
        Checks.same("restore(1) of a save behind load", x.restore(1), 0);
    }
}
