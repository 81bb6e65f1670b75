import java.util.function.Supplier;

/** The boundary cases of promises 30 and 31: save and restore. */
final class EdgesOfSlots {
    private static final Supplier<LoafRounds> ONE_SAVED = () -> saved(0);
    private static final Supplier<LoafRounds> OTHER_SAVED = () -> saved(1);

    private EdgesOfSlots() {
    }

    static void run() {
        save();
        saveRefuses();
        restore();
        restoreForgets();
        restoreRefuses();
        theSlotKeepsIt();
    }

    /** One slot is filled, the other one is empty. */
    private static LoafRounds saved(int slot) {
        LoafRounds x = new LoafRounds();
        x.customer(1, 1234567);
        x.days(2);
        x.save(slot);
        x.days(3);
        return x;
    }

    private static void save() {
        Edges.sentence(30, "Stores the present state in a save slot.");
        Edges.sentence(30, "Returns today.");
        LoafRounds x = new LoafRounds();
        Edges.is("save(0) of a new object", x.save(0), 0);
        x.days(60);
        Edges.is("save(1) of day 60", x.save(1), 60);
        x.days(1);
        Edges.is("save(1) of day 61", x.save(1), 61);
        Edges.is("restore(0)", x.restore(0), 0);
        Edges.looks("behind restore(0)", x, new LoafRounds());
        Edges.is("restore(1)", x.restore(1), 61);
        Edges.sentence(30, "- `slot`: 0 or 1");
        for (int slot = 0; slot <= 1; slot++) {
            LoafRounds y = Edges.BUSY.get();
            String look = Checks.lookOf(y);
            int other = 1 - slot;
            y.save(slot);
            Edges.is("undo() behind save(" + slot + ")", y.undo(), 13);
            Edges.is("restore(" + other + ") of the slot that is left", y.restore(other), other == 0 ? 1 : 3);
            Edges.is("restore(" + slot + ")", y.restore(slot), 4);
            Checks.same("what was saved in " + slot, Checks.lookOf(y), look);
        }
    }

    private static void saveRefuses() {
        Edges.sentence(30, "Throws `IndexOutOfBoundsException` if there is no such save slot");
        Edges.range(Edges.PLACE, Edges.NEW, "save(#)", 0, 1, LoafRounds::save);
        Edges.range(Edges.PLACE, Edges.BUSY, "save(#)", 0, 1, LoafRounds::save);
        Edges.sentence(Document.BEFORE, "or that a save slot is not 0 or 1");
        Edges.range(Edges.PLACE, ONE_SAVED, "save(#)", 0, 1, LoafRounds::save);
        Edges.range(Edges.PLACE, Edges.FULL, "restore(#)", 0, 1, LoafRounds::restore);
    }

    private static void restore() {
        Edges.sentence(31, "Replaces the state by the one in a save slot, and forgets all remembered states. "
                + "The save slot keeps it.");
        Edges.sentence(31, "Returns today then.");
        LoafRounds x = Edges.BUSY.get();
        x.save(0);
        String look = Checks.lookOf(x);
        x.customer(2, 5555555);
        x.change(0, 0, 9);
        x.change(3, 6, 0);
        x.drop(0, 0);
        x.drop(1, 0);
        x.holiday(2, 0, 999);
        x.close(1, 6, false);
        x.close(3, 3, true);
        x.swap(1, 2);
        x.swap(0, 1);
        for (int what = 0; what <= 4; what++) {
            x.set(what, 8);
        }
        x.days(60);
        Edges.is("restore(0)", x.restore(0), 4);
        Checks.same("what can be seen behind restore(0)", Checks.lookOf(x), look);
        Edges.is("days(1) behind restore(0)", x.days(1), Edges.BUSY.get().days(1));
        LoafRounds fewer = Edges.BUSY.get();
        Edges.is("restore(0) of three customers", fewer.restore(0), 1);
        Edges.about("three customers", fewer, 0, 3, 1, 1);
        Edges.is("restore(1) of three customers", fewer.restore(1), 3);
        Edges.is("customer(0, 0) behind restore(1)", fewer.customer(0, 0), 3);
        Edges.customerOf("one behind restore(1)", fewer, 3, 0, 0, 1, 0, 2, 0, 3, 0, 4, 0, 5, 0, 6, 0, 7, 0, 8, 0);
    }

    private static LoafRounds restored(int slot) {
        LoafRounds x = Edges.BUSY.get();
        x.restore(slot);
        return x;
    }

    private static void restoreForgets() {
        Edges.sentence(31, "and forgets all remembered states");
        for (int slot = 0; slot <= 1; slot++) {
            int of = slot;
            Edges.refused(Edges.STATE, () -> restored(of), "undo() behind restore(" + slot + ")", LoafRounds::undo);
            LoafRounds x = restored(slot);
            for (int i = 1; i <= 15; i++) {
                x.set(0, i);
            }
            for (int left = 13; left >= 0; left--) {
                Edges.is("undo() behind restore(" + slot + ") and 15 actions", x.undo(), left);
            }
            Edges.is("setting(0) behind 14 times undo()", x.setting(0), 1);
        }
        LoafRounds y = Edges.BUSY.get();
        String text = Edges.BUSY.get().errorPosition() + " " + Edges.BUSY.get().clearText();
        y.restore(0);
        Checks.same("the text behind restore(0)", y.errorPosition() + " " + y.clearText(), text);
    }

    private static void restoreRefuses() {
        Edges.sentence(31, "- `slot`: 0 or 1");
        Edges.sentence(31, "Throws `IndexOutOfBoundsException` if there is no such save slot");
        Edges.range(Edges.PLACE, Edges.BUSY, "restore(#)", 0, 1, LoafRounds::restore);
        for (int slot : new int[] {-1, 2, Integer.MIN_VALUE, Integer.MAX_VALUE}) {
            Edges.refused(Edges.PLACE, Edges.NEW, "restore(" + slot + ")", x -> x.restore(slot));
            Edges.refused(Edges.PLACE, ONE_SAVED, "restore(" + slot + ")", x -> x.restore(slot));
        }
        Edges.sentence(31, "Throws `IllegalStateException` if nothing has been saved in it since the last load");
        Edges.refused(Edges.STATE, Edges.NEW, "restore(0)", x -> x.restore(0));
        Edges.refused(Edges.STATE, Edges.NEW, "restore(1)", x -> x.restore(1));
        Edges.allowed(ONE_SAVED, "restore(0)", x -> x.restore(0));
        Edges.refused(Edges.STATE, ONE_SAVED, "restore(1)", x -> x.restore(1));
        Edges.allowed(OTHER_SAVED, "restore(1)", x -> x.restore(1));
        Edges.refused(Edges.STATE, OTHER_SAVED, "restore(0)", x -> x.restore(0));
        for (int slot = 0; slot <= 1; slot++) {
            int of = slot;
            Edges.refused(Edges.STATE, EdgesOfSlots::loaded, "restore(" + slot + ")", x -> x.restore(of));
            LoafRounds x = loaded();
            x.save(slot);
            Edges.is("restore(" + slot + ") of a save behind load()", x.restore(slot), 3);
            // A load that is refused empties no slot, and a save is not taken back by undo.
            Edges.is("restore(" + slot + ") behind a refused load()", afterRefusedLoad(slot), slot == 0 ? 1 : 3);
        }
        LoafRounds z = new LoafRounds();
        z.days(1);
        z.save(1);
        z.undo();
        Edges.is("restore(1) behind undo()", z.restore(1), 1);
    }

    private static LoafRounds loaded() {
        LoafRounds x = Edges.BUSY.get();
        x.load();
        return x;
    }

    private static LoafRounds withWrongText() {
        LoafRounds x = Edges.BUSY.get();
        Checks.write(x, "Bd61");
        return x;
    }

    private static int afterRefusedLoad(int slot) {
        LoafRounds x = withWrongText();
        try {
            return x.load();
        } catch (IllegalStateException e) {
            return x.restore(slot);
        }
    }

    private static void theSlotKeepsIt() {
        Edges.sentence(31, "The save slot keeps it.");
        for (int slot = 0; slot <= 1; slot++) {
            LoafRounds x = Edges.BUSY.get();
            int today = slot == 0 ? 1 : 3;
            Edges.is("restore(" + slot + ")", x.restore(slot), today);
            String look = Checks.lookOf(x);
            x.change(0, 0, 9);
            x.holiday(2, 0, 999);
            x.swap(0, 1);
            x.set(0, 99);
            x.customer(0, 7777777);
            x.days(9);
            Edges.is("restore(" + slot + ") once more", x.restore(slot), today);
            Checks.same("what can be seen behind restore once more", Checks.lookOf(x), look);
        }
        LoafRounds x = saved(0);
        x.restore(0);
        x.save(1);
        x.days(7);
        Edges.is("restore(1) of what came from slot 0", x.restore(1), 2);
        Edges.is("restore(0)", x.restore(0), 2);
    }
}
