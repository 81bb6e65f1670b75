/** The boundary cases of the text: promises 1 to 5, and what the document says of texts before them. */
final class EdgesOfText {
    private static final String DIGITS = "0123456789";

    private EdgesOfText() {
    }

    static void run() {
        aNewObject();
        characters();
        lengthOfTheText();
        clearText();
        emptyBook();
        lettersOfCommands();
        signsOfCommands();
        signsOfDays();
        tooSoon();
        firstError();
        fullBook();
        load();
        loadMakesAllNew();
        loadsNumbers();
        leftOut();
        loadForgets();
        loadKeepsTheText();
        loadRefuses();
    }

    private static void before(String words) {
        Edges.sentence(Document.BEFORE, words);
    }

    private static LoafRounds loaded(String text) {
        LoafRounds x = Checks.withText(text);
        x.load();
        return x;
    }

    private static void aNewObject() {
        Edges.sentence(1, "Creates a book without customers.");
        LoafRounds x = new LoafRounds();
        for (int what = 0; what <= 12; what++) {
            Edges.is("about(" + what + ")", x.about(what), 0);
        }
        Edges.is("errorPosition()", x.errorPosition(), 0);
        Edges.is("clearText()", x.clearText(), 0);
        Edges.refused(Edges.PLACE, Edges.NEW, "customerOf(0, 0)", y -> y.customerOf(0, 0));
        Edges.refused(Edges.STATE, Edges.NEW, "undo()", LoafRounds::undo);
        Edges.refused(Edges.STATE, Edges.NEW, "restore(0)", y -> y.restore(0));
        Edges.refused(Edges.STATE, Edges.NEW, "restore(1)", y -> y.restore(1));
        Edges.refused(Edges.STATE, Edges.NEW, "load()", LoafRounds::load);
    }

    private static void characters() {
        Edges.sentence(2, "Appends a character to the text buffer.");
        Edges.is("errorPosition() behind append('B')", Checks.withText("B").errorPosition(), -1);
        Edges.sentence(2, "- `c`: character code, 0 to 255");
        Edges.sentence(2, "Throws `IllegalArgumentException` if c is out of range");
        Edges.range(Edges.ARGUMENT, Edges.NEW, "append(#)", 0, 255, LoafRounds::append);
        Edges.range(Edges.ARGUMENT, Edges.BUSY, "append(#)", 0, 255, LoafRounds::append);
        // A code that only wraps round to a letter is not that letter.
        Edges.refused(Edges.ARGUMENT, Edges.NEW, "append(65536 + 'B')", x -> x.append(65536 + 'B'));
        Edges.refused(Edges.ARGUMENT, Edges.NEW, "append(256 + 'B')", x -> x.append(256 + 'B'));
    }

    private static void lengthOfTheText() {
        before("The object has a text buffer of at most 120 characters.");
        Edges.sentence(2, "Returns the new length of the text.");
        LoafRounds x = new LoafRounds();
        for (int length = 1; length <= 120; length++) {
            Edges.is("append(0)", x.append(0), length);
        }
        Edges.sentence(2, "Throws `IllegalStateException` if the text already has 120 characters");
        for (int c : new int[] {0, 'B', 255}) {
            Edges.refused(Edges.STATE, Edges.FULL, "append(" + c + ")", y -> y.append(c));
        }
        before("If several exceptions apply to a call, the one that its description names first is thrown.");
        for (int c : new int[] {-1, 256, Integer.MIN_VALUE, Integer.MAX_VALUE}) {
            Edges.refused(Edges.ARGUMENT, Edges.FULL, "append(" + c + ")", y -> y.append(c));
        }
        Edges.is("clearText() of a full text", x.clearText(), 120);
        Edges.is("append('B') behind it", x.append('B'), 1);
    }

    private static void clearText() {
        Edges.sentence(3, "Empties the text buffer.");
        LoafRounds x = Checks.withText("Bq");
        x.clearText();
        Edges.is("errorPosition()", x.errorPosition(), 0);
        Edges.is("append('B')", x.append('B'), 1);
        Edges.is("errorPosition()", x.errorPosition(), -1);
        Edges.sentence(3, "Returns the previous length of the text.");
        Edges.is("clearText() of one", x.clearText(), 1);
        Edges.is("clearText() of none", x.clearText(), 0);
        Edges.is("clearText() of 120", Checks.withText(Edges.fullText()).clearText(), 120);
        LoafRounds y = Edges.BUSY.get();
        y.clearText();
        Edges.looks("behind clearText()", y, emptied());
    }

    private static LoafRounds emptied() {
        LoafRounds x = Edges.BUSY.get();
        x.days(1);
        x.undo();
        x.clearText();
        return x;
    }

    private static void emptyBook() {
        Edges.sentence(4, "Checks the text.");
        Edges.changesNothing(Edges.BUSY, "errorPosition()", LoafRounds::errorPosition);
        Edges.sentence(4, "Returns the error position of the text; NONE if it is a book.");
        signs("", "B", true);
        before("A book as a text is the letter B, and then any number of commands");
        Edges.is("errorPosition() of B", Checks.withText("B").errorPosition(), -1);
        Edges.is("load() of B", Checks.withText("B").load(), 0);
        Edges.looks("behind load() of B", loaded("B"), Checks.withText("B"));
    }

    /** Behind these signs just the allowed ones may stand, of all 256; they end a command or do not. */
    private static void signs(String text, String allowed, boolean areLast) {
        for (char c = 0; c <= 255; c++) {
            int want = allowed.indexOf(c) < 0 ? text.length() : areLast ? -1 : text.length() + 1;
            Edges.is("errorPosition() of " + text + " and sign " + (int) c,
                    Checks.withText(text + c).errorPosition(), want);
        }
    }

    private static void lettersOfCommands() {
        before("There are no blanks.");
        signs("B", "cnhxvsd", false);
        signs("Bv01", "cnhxvsd", false);
        signs("Bx00-", "cnhxvsd", false);
        signs("Bd60", "cnhxvsd", false);
        Edges.is("errorPosition() of a blank ahead", Checks.withText(" B").errorPosition(), 0);
        Edges.is("errorPosition() of a blank behind", Checks.withText("Bv01 ").errorPosition(), 4);
    }

    private static void command(String words, char letter, String... allowed) {
        before(words);
        StringBuilder least = new StringBuilder("B").append(letter);
        StringBuilder greatest = new StringBuilder("B").append(letter);
        for (int i = 0; i < allowed.length; i++) {
            signs(least.toString(), allowed[i], i == allowed.length - 1);
            signs(greatest.toString(), allowed[i], i == allowed.length - 1);
            least.append(allowed[i].charAt(0));
            greatest.append(allowed[i].charAt(allowed[i].length() - 1));
        }
    }

    private static void signsOfCommands() {
        String customer = DIGITS;
        String street = "0123";
        String weekday = "0123456";
        before("a customer is a digit (0 to 9), a street a digit (0 to 3), a weekday a digit (0 to 6)");
        command("c, a street, and seven digits for the weekdays 0 to 6", 'c',
                street, DIGITS, DIGITS, DIGITS, DIGITS, DIGITS, DIGITS, DIGITS);
        command("n, a customer, a weekday, and a digit (0 to 9): change()", 'n', customer, weekday, DIGITS);
        command("h, a customer, and two days, two digits each (00 to 99): holiday()", 'h',
                customer, DIGITS, DIGITS, DIGITS, DIGITS);
        command("x, a street, a weekday, and + or -: close(), closed or not", 'x', street, weekday, "+-");
        command("v and two streets: swap()", 'v', street, street);
        command("s, a digit (0 to 4), and two digits: set()", 's', "01234", DIGITS, DIGITS);
    }

    private static void signsOfDays() {
        before("d and two digits (01 to 60): days()");
        signs("Bd", "0123456", false);
        before("(a digit is not allowed if no number that is allowed begins with it and those before it)");
        signs("Bd0", "123456789", true);
        for (int tens = 1; tens <= 5; tens++) {
            signs("Bd" + tens, DIGITS, true);
        }
        signs("Bd6", "0", true);
    }

    private static void tooSoon() {
        before("if the text ends too soon, it is the length of the text");
        Edges.is("errorPosition() of an empty text", new LoafRounds().errorPosition(), 0);
        String book = "Bc31234567n969h91234x36-v30s499d60";
        String ends = "";
        for (String end : new String[] {"B", "Bc31234567", "Bc31234567n969", "Bc31234567n969h91234",
            "Bc31234567n969h91234x36-", "Bc31234567n969h91234x36-v30", "Bc31234567n969h91234x36-v30s499", book}) {
            ends += " " + end.length() + " ";
        }
        for (int length = 0; length <= book.length(); length++) {
            boolean isBook = ends.contains(" " + length + " ");
            Edges.is("errorPosition() of " + book.substring(0, length),
                    Checks.withText(book.substring(0, length)).errorPosition(), isBook ? -1 : length);
        }
        String full = Edges.fullText();
        Edges.is("errorPosition() of 119 signs", Checks.withText(full.substring(0, 119)).errorPosition(), 119);
        String fullTooSoon = full.substring(0, 116) + "c000";
        Edges.is("errorPosition() of 120 signs", Checks.withText(fullTooSoon).errorPosition(), 120);
    }

    private static void firstError() {
        before("The error position is the index of the first character that these rules do not allow at its place");
        Edges.is("errorPosition() of two errors", Checks.withText("Bv01v41d61q").errorPosition(), 5);
        Edges.is("errorPosition() of an error and too soon an end", Checks.withText("Bv01v1").errorPosition(), 6);
        Edges.is("errorPosition() of an error ahead", Checks.withText("Av01v1").errorPosition(), 0);
        String full = Edges.fullText().substring(0, 119);
        Edges.is("errorPosition() of an error at the end", Checks.withText(full + "0").errorPosition(), 119);
    }

    private static void fullBook() {
        before("any number of commands");
        LoafRounds x = Checks.withText(Edges.fullText());
        Edges.is("errorPosition()", x.errorPosition(), -1);
        Edges.is("load()", x.load(), 0);
        Edges.is("round(0)", x.round(0), 1);
        Edges.is("round(1)", x.round(1), 0);
        Edges.is("isClosed(0, 0)", x.isClosed(0, 0), 1);
        Edges.is("isClosed(1, 1)", x.isClosed(1, 1), 1);
    }

    private static void load() {
        Edges.sentence(5, "Makes everything as in a new object, and then does the commands of the text.");
        LoafRounds x = Edges.BUSY.get();
        Checks.write(x, "Bc31234567c00000000x26+v03s310h00199");
        Edges.is("load()", x.load(), 0);
        LoafRounds y = new LoafRounds();
        y.customer(3, 1234567);
        y.customer(0, 0);
        y.close(2, 6, true);
        y.swap(0, 3);
        y.set(3, 10);
        y.holiday(0, 1, 99);
        Checks.write(y, "B");
        Edges.looks("behind load()", x, y);
        Edges.is("load() once more", x.load(), 0);
        Edges.looks("behind load() once more", x, y);
        LoafRounds z = Edges.FULL.get();
        Checks.write(z, "B");
        Edges.is("load()", z.load(), 0);
        Edges.looks("behind load() of B", z, Checks.withText("B"));
    }

    private static void loadMakesAllNew() {
        Edges.sentence(5, "Makes everything as in a new object");
        for (int street = 1; street < 4; street++) {
            LoafRounds x = Edges.FULL.get();
            for (int i = 0; i < 28; i++) {
                x.close(i / 7, i % 7, true);
            }
            // Each street stands at another place than at first.
            x.swap(0, street);
            x.swap(street % 3 + 1, (street + 1) % 3 + 1);
            for (int what = 0; what <= 4; what++) {
                x.set(what, 8 - what);
            }
            x.days(60);
            Checks.write(x, "B");
            Edges.is("load()", x.load(), 0);
            Edges.looks("behind load() of B", x, Checks.withText("B"));
        }
    }

    private static void loadsNumbers() {
        before("h, a customer, and two days, two digits each (00 to 99): holiday()");
        LoafRounds x = loaded("Bc00000000c11111111h00000h09999h00099");
        int[] days = {0, 0, 99, 99, 0, 99};
        for (int i = 0; i < days.length; i++) {
            Edges.is("day " + i, x.away(0, i / 2, i % 2), days[i]);
        }
        before("n, a customer, a weekday, and a digit (0 to 9): change()");
        LoafRounds y = loaded("Bc11111111n009n060n119");
        Edges.is("ordered(0, 0)", y.ordered(0, 0), 9);
        Edges.is("ordered(0, 6)", y.ordered(0, 6), 0);
        Edges.is("ordered(0, 1)", y.ordered(0, 1), 1);
        before("d and two digits (01 to 60): days()");
        Edges.about("d01", loaded("Bd01"), 1, 1);
        Edges.about("d60", loaded("Bd60"), 1, 60);
        Edges.about("d59", loaded("Bd59d10d01"), 1, 70);
        before("x, a street, a weekday, and + or -: close(), closed or not");
        LoafRounds z = loaded("Bx36+x00+x00-");
        Edges.is("isClosed(3, 6)", z.isClosed(3, 6), 1);
        Edges.is("isClosed(0, 0)", z.isClosed(0, 0), 0);
        before("v and two streets: swap()");
        Edges.is("round(3)", loaded("Bv03").round(3), 0);
        Edges.is("round(0)", loaded("Bv03").round(0), 3);
        Edges.is("round(0)", loaded("Bv33").round(0), 0);
    }

    private static void leavesOut(String text, int want) {
        Edges.is("load() of " + text, Checks.withText(text).load(), want);
    }

    private static void leftOut() {
        before("Commands that would throw an exception are left out.");
        Edges.sentence(5, "Returns the number of commands that are left out.");
        leavesOut("B", 0);
        leavesOut("Bn000", 1);
        leavesOut("Bc00000000n000n100n900", 2);
        leavesOut("Bh00000", 1);
        leavesOut("Bc00000000h00000h10000h00201h00202h00303h00404", 3);
        leavesOut("Bs000s099s100s109s200s209s300s330s401s420", 0);
        leavesOut("Bs110", 1);
        leavesOut("Bs210", 1);
        leavesOut("Bs331", 1);
        leavesOut("Bs400", 1);
        leavesOut("Bs421", 1);
        leavesOut("Bs199s299s399s499", 4);
        leavesOut("B" + "c00000000".repeat(10), 0);
        leavesOut("B" + "c00000000".repeat(11), 1);
        leavesOut("B" + "n000".repeat(29), 29);
        LoafRounds x = loaded("Bs110s400n000d02h00000c01000000");
        LoafRounds y = loaded("Bd02c01000000");
        Checks.write(x, "B");
        Checks.write(y, "B");
        Edges.looks("behind load()", x, y);
    }

    private static void loadForgets() {
        Edges.sentence(5, "Behind it no state is remembered, and both save slots are empty.");
        LoafRounds x = Edges.BUSY.get();
        x.load();
        Edges.is("undo() behind load()", remembered(x), 0);
        Edges.refused(Edges.STATE, EdgesOfText::busyLoaded, "undo() behind load()", LoafRounds::undo);
        Edges.refused(Edges.STATE, EdgesOfText::busyLoaded, "restore(0) behind load()", y -> y.restore(0));
        Edges.refused(Edges.STATE, EdgesOfText::busyLoaded, "restore(1) behind load()", y -> y.restore(1));
        LoafRounds y = busyLoaded();
        for (int i = 0; i < 15; i++) {
            y.set(0, i);
        }
        Edges.is("states remembered behind load() and 15 actions", remembered(y), 14);
        LoafRounds z = busyLoaded();
        z.set(0, 50);
        Edges.is("undo()", z.undo(), 0);
        Edges.looks("behind undo()", z, busyLoaded());
    }

    private static LoafRounds busyLoaded() {
        LoafRounds x = Edges.BUSY.get();
        x.load();
        return x;
    }

    private static int remembered(LoafRounds x) {
        for (int states = 0; states <= 20; states++) {
            try {
                x.undo();
            } catch (IllegalStateException e) {
                return states;
            }
        }
        return -1;
    }

    private static void loadKeepsTheText() {
        Edges.sentence(5, "Keeps the text, also if it throws the exception.");
        Edges.is("clearText() behind load()", busyLoaded().clearText(), 13);
        Edges.is("errorPosition() behind load()", busyLoaded().errorPosition(), -1);
        LoafRounds x = Checks.withText("Bd6");
        Edges.refused(Edges.STATE, () -> busyWith("Bd6"), "load() of no book", LoafRounds::load);
        try {
            x.load();
        } catch (IllegalStateException e) {
            Edges.is("append('0') behind load() of no book", x.append('0'), 4);
        }
    }

    private static void loadRefuses() {
        Edges.sentence(5, "Throws `IllegalStateException` if the text is not a book");
        for (String text : new String[] {"", "b", "BB", "Bd", "Bd0", "Bd00", "Bd61", "Bd01 ", "Bv01v0"}) {
            Edges.refused(Edges.STATE, () -> busyWith(text), "load() of '" + text + "'", LoafRounds::load);
        }
    }

    private static LoafRounds busyWith(String text) {
        LoafRounds x = Edges.BUSY.get();
        Checks.write(x, text);
        return x;
    }
}
