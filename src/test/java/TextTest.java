/** Promises 2 to 5: append, clearText, errorPosition, load. */
public final class TextTest {
    public static void main(String[] args) {
        append();
        clearText();
        errorPosition();
        loadDoesEachCommand();
        loadLeavesOut();
        loadMakesAllNew();
        loadRefusesWhatIsNoBook();
        Checks.end();
    }

    private static void append() {
        LoafRounds x = new LoafRounds();
        Checks.same("append(0)", x.append(0), 1);
        Checks.same("append(255)", x.append(255), 2);
        Checks.noArgument("append(-1)", x, () -> x.append(-1));
        Checks.noArgument("append(256)", x, () -> x.append(256));
        for (int i = 3; i <= 120; i++) {
            Checks.same("append('B')", x.append('B'), i);
        }
        Checks.noState("append to 120 characters", x, () -> x.append('B'));
        Checks.noArgument("append(256) to 120 characters", x, () -> x.append(256));
        Checks.noArgument("append(-1) to 120 characters", x, () -> x.append(-1));
        Checks.same("clearText()", x.clearText(), 120);
    }

    private static void clearText() {
        LoafRounds x = Checks.withText("Bv");
        Checks.same("clearText()", x.clearText(), 2);
        Checks.same("clearText() again", x.clearText(), 0);
        Checks.same("append behind clearText()", x.append('B'), 1);
        Checks.same("errorPosition behind clearText()", x.errorPosition(), -1);
    }

    private static void error(String text, int want) {
        Checks.same("errorPosition of " + text, Checks.withText(text).errorPosition(), want);
    }

    private static void errorPosition() {
        error("", 0);
        error("b", 0);
        error(" B", 0);
        error("B", -1);
        error("B ", 1);
        error("Bq", 1);
        error("BB", 1);
        error("B0", 1);
        error("B\0", 1);
        error("Bc30000000", -1);
        error("Bc39999999", -1);
        error("Bc4", 2);
        error("Bc300000/0", 8);
        error("Bc300000:0", 8);
        error("Bc300000000", 10);
        error("Bc3000000", 9);
        error("Bc", 2);
        error("Bn969", -1);
        error("Bn97", 3);
        error("Bn", 2);
        error("Bn9", 3);
        error("Bn96a", 4);
        error("Bh99999", -1);
        error("Bh90000", -1);
        error("Bh99900", -1);
        error("Bh9000", 6);
        error("Bh9000+", 6);
        error("Bx36+", -1);
        error("Bx00-", -1);
        error("Bx40-", 2);
        error("Bx37-", 3);
        error("Bx36*", 4);
        error("Bx36,", 4);
        error("Bx36", 4);
        error("Bx36++", 5);
        error("Bv33", -1);
        error("Bv4", 2);
        error("Bv34", 3);
        error("Bv3", 3);
        error("Bs499", -1);
        error("Bs5", 2);
        error("Bs4", 3);
        error("Bs49x", 4);
        error("Bd01", -1);
        error("Bd09", -1);
        error("Bd10", -1);
        error("Bd59", -1);
        error("Bd60", -1);
        error("Bd00", 3);
        error("Bd61", 3);
        error("Bd7", 2);
        error("Bd", 2);
        error("Bd6", 3);
        error("Bd0", 3);
        error("Bd5:", 3);
        error("Bd0/", 3);
        error("Bv01v10d01x00+s000h00000n000c00000000", -1);
        error("Bv01 v10", 4);
    }

    private static void loadDoesEachCommand() {
        LoafRounds x = Checks.withText("Bc21234567c00000009n146h10305h10404x25+x26+x26-v13s010s409");
        Checks.same("load()", x.load(), 0);
        Checks.same("customers", x.about(0), 2);
        Checks.same("today", x.about(1), 0);
        for (int w = 0; w < 7; w++) {
            Checks.same("ordered(0, " + w + ")", x.ordered(0, w), w + 1);
            Checks.same("ordered(1, " + w + ")", x.ordered(1, w), w == 6 ? 9 : w == 4 ? 6 : 0);
        }
        Checks.same("the street", x.customerOf(0, 0), 2);
        Checks.same("away(1, 0, 0)", x.away(1, 0, 0), 3);
        Checks.same("away(1, 0, 1)", x.away(1, 0, 1), 5);
        Checks.same("away(1, 1, 0)", x.away(1, 1, 0), 4);
        Checks.same("away(1, 1, 1)", x.away(1, 1, 1), 4);
        Checks.same("isClosed(2, 5)", x.isClosed(2, 5), 1);
        Checks.same("isClosed(2, 6)", x.isClosed(2, 6), 0);
        Checks.same("round(1)", x.round(1), 3);
        Checks.same("round(3)", x.round(3), 1);
        Checks.same("setting(0)", x.setting(0), 10);
        Checks.same("setting(4)", x.setting(4), 9);
        Checks.write(x, "Bc01111111d12d60");
        Checks.same("load()", x.load(), 0);
        Checks.same("today", x.about(1), 72);
        Checks.same("got", x.about(3), 72);
    }

    private static void loadLeavesOut() {
        LoafRounds x = Checks.withText("Bn000h00000s400s421s110s299s331h0");
        Checks.same("errorPosition()", x.errorPosition(), 33);
        Checks.write(x, "Bn000h00000s400s421s110s299s331d01");
        Checks.same("load()", x.load(), 7);
        Checks.same("today", x.about(1), 1);
        Checks.write(x, "Bc01111111h00201h00101h00202h00303h00404n001n101v00");
        Checks.same("load()", x.load(), 3);
        Checks.same("the holidays", x.customerOf(0, 8), 3);
        Checks.write(x, "Bc00000000c00000000c00000000c00000000c00000000c00000000c00000000"
                + "c00000000c00000000c00000000c00000000c00000000");
        Checks.same("load()", x.load(), 2);
        Checks.same("customers", x.about(0), 10);
    }

    private static void loadMakesAllNew() {
        LoafRounds x = Checks.withText("Bc01111111");
        x.customer(3, 7);
        x.days(3);
        x.close(1, 1, true);
        x.swap(0, 2);
        x.set(4, 20);
        x.save(0);
        x.save(1);
        Checks.same("load()", x.load(), 0);
        LoafRounds y = new LoafRounds();
        y.customer(0, 1111111);
        Checks.write(y, "Bc01111111");
        Checks.same("what can be seen behind load()", Checks.lookOf(x), Checks.lookOf(y));
        Checks.noState("undo behind load()", x, x::undo);
        Checks.noState("restore(0) behind load()", x, () -> x.restore(0));
        Checks.noState("restore(1) behind load()", x, () -> x.restore(1));
        x.days(1);
        Checks.same("undo() of what came behind load()", x.undo(), 0);
        Checks.same("clearText() behind load()", x.clearText(), 10);
    }

    private static void loadRefusesWhatIsNoBook() {
        LoafRounds x = Checks.withText("Bd07d0");
        x.customer(1, 2222222);
        x.save(1);
        x.days(2);
        Checks.noState("load() of no book", x, x::load);
        Checks.same("restore(1) behind it", x.restore(1), 0);
        x.days(2);
        Checks.noState("load() of no book", x, x::load);
        Checks.same("undo() behind it", x.undo(), 0);
        Checks.same("the text is kept", x.append('1'), 7);
        Checks.same("load()", x.load(), 0);
        Checks.same("today", x.about(1), 8);
        x.clearText();
        Checks.noState("load() of an empty text", x, x::load);
    }
}
