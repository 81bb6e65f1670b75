/** The boundary cases of promises 14 to 22: customer, change, holiday, drop, close, swap, set, days, undo. */
final class EdgesOfActions {
    private EdgesOfActions() {
    }

    static void run() {
        customer();
        customerWhereOneWas();
        customerRefuses();
        change();
        changeRefuses();
        holiday();
        holidayRefuses();
        drop();
        dropRefuses();
        close();
        swap();
        set();
        days();
        daysAnswers();
        undo();
        rememberedStates();
        whatIsAnAction();
        whatIsNoAction();
    }

    private static void before(String words) {
        Edges.sentence(Document.BEFORE, words);
    }

    private static LoafRounds with(int... weeks) {
        LoafRounds x = new LoafRounds();
        for (int week : weeks) {
            x.customer(0, week);
        }
        return x;
    }

    private static void customer() {
        Edges.sentence(14, "Adds a customer.");
        Edges.sentence(14, "Returns the customer's number.");
        Edges.sentence(14, "- `week`: 0 to 9999999: seven digits, the highest one for the weekday 0");
        int[] weeks = {0, 9999999, 9000000, 9, 1234567, 90};
        LoafRounds x = new LoafRounds();
        for (int c = 0; c < weeks.length; c++) {
            Edges.is("customer(3, " + weeks[c] + ")", x.customer(3, weeks[c]), c);
            String digits = String.format("%07d", weeks[c]);
            int sum = 0;
            for (int w = 0; w < 7; w++) {
                Edges.is("ordered(" + c + ", " + w + ")", x.ordered(c, w), digits.charAt(w) - '0');
                sum += digits.charAt(w) - '0';
            }
            Edges.customerOf("a new one", x, c, 0, 3, 1, sum, 2, 0, 3, 0, 4, 0, 5, 0, 6, 0, 7, 0, 8, 0);
        }
    }

    /** Customer 1, the last 8 actions old, has more than 0 of everything; slot 0 has customer 0 alone. */
    static LoafRounds withAnAccount() {
        LoafRounds x = with(0);
        x.save(0);
        x.customer(1, 9999999);
        x.holiday(1, 50, 51);
        x.set(0, 4);
        x.days(1);
        x.set(0, 0);
        x.days(1);
        x.set(0, 30);
        x.days(1);
        return x;
    }

    private static void customerWhereOneWas() {
        Edges.sentence(14, "Adds a customer.");
        Edges.customerOf("an account", withAnAccount(), 1, 0, 1, 1, 63, 2, 9, 3, 13, 4, 1, 5, 4, 6, 1, 7, 1, 8, 1);
        LoafRounds undone = withAnAccount();
        for (int i = 0; i < 8; i++) {
            undone.undo();
        }
        LoafRounds restored = withAnAccount();
        restored.restore(0);
        LoafRounds loaded = withAnAccount();
        Checks.write(loaded, "Bc00000000");
        loaded.load();
        for (LoafRounds x : new LoafRounds[] {undone, restored, loaded}) {
            Edges.is("customer(2, 0)", x.customer(2, 0), 1);
            Edges.customerOf("one where one was", x, 1, 0, 2, 1, 0, 2, 0, 3, 0, 4, 0, 5, 0, 6, 0, 7, 0, 8, 0);
        }
    }

    private static void customerRefuses() {
        Edges.sentence(14, "- `s`: street");
        Edges.sentence(14, "Throws `IndexOutOfBoundsException` if there is no such street");
        Edges.range(Edges.PLACE, Edges.NEW, "customer(#, 9999999)", 0, 3, (x, s) -> x.customer(s, 9999999));
        Edges.range(Edges.PLACE, Edges.BUSY, "customer(#, 0)", 0, 3, (x, s) -> x.customer(s, 0));
        for (int week : new int[] {-1, 10000000}) {
            Edges.refused(Edges.PLACE, Edges.BUSY, "customer(4, " + week + ")", x -> x.customer(4, week));
            Edges.refused(Edges.PLACE, Edges.FULL, "customer(-1, " + week + ")", x -> x.customer(-1, week));
        }
        Edges.refused(Edges.PLACE, Edges.FULL, "customer(4, 0)", x -> x.customer(4, 0));
        Edges.sentence(14, "Throws `IllegalArgumentException` if week is out of range");
        Edges.range(Edges.ARGUMENT, Edges.NEW, "customer(0, #)", 0, 9999999, (x, week) -> x.customer(0, week));
        Edges.range(Edges.ARGUMENT, Edges.BUSY, "customer(3, #)", 0, 9999999, (x, week) -> x.customer(3, week));
        Edges.refused(Edges.ARGUMENT, Edges.FULL, "customer(0, -1)", x -> x.customer(0, -1));
        Edges.refused(Edges.ARGUMENT, Edges.FULL, "customer(3, 10000000)", x -> x.customer(3, 10000000));
        Edges.sentence(14, "Throws `IllegalStateException` if there are 10");
        Edges.refused(Edges.STATE, Edges.FULL, "customer(0, 0)", x -> x.customer(0, 0));
        Edges.refused(Edges.STATE, Edges.FULL, "customer(3, 9999999)", x -> x.customer(3, 9999999));
        LoafRounds x = with(0, 0, 0, 0, 0, 0, 0, 0, 0);
        Edges.is("customer(0, 0), the tenth", x.customer(0, 0), 9);
        x.undo();
        Edges.is("customer(0, 0), the tenth once more", x.customer(0, 0), 9);
    }

    private static void change() {
        Edges.sentence(15, "Changes the loaves for a weekday.");
        Edges.sentence(15, "Returns the previous ones.");
        LoafRounds x = with(1234567, 7654321);
        for (int w = 0; w < 7; w++) {
            Edges.is("change(0, " + w + ", 9)", x.change(0, w, 9), w + 1);
            Edges.is("change(0, " + w + ", 0)", x.change(0, w, 0), 9);
            Edges.is("change(0, " + w + ", 0)", x.change(0, w, 0), 0);
            for (int i = 0; i < 7; i++) {
                Edges.is("ordered(0, " + i + ")", x.ordered(0, i), i <= w ? 0 : i + 1);
                Edges.is("ordered(1, " + i + ")", x.ordered(1, i), 7 - i);
            }
        }
        Edges.is("days(7) with the other's loaves alone", x.days(7), 28);
    }

    private static void changeRefuses() {
        Edges.sentence(15, "- `c`: customer");
        Edges.range(Edges.PLACE, Edges.BUSY, "change(#, 0, 0)", 0, 3, (x, c) -> x.change(c, 0, 0));
        Edges.range(Edges.PLACE, Edges.FULL, "change(#, 6, 9)", 0, 9, (x, c) -> x.change(c, 6, 9));
        Edges.refused(Edges.PLACE, Edges.NEW, "change(0, 0, 0)", x -> x.change(0, 0, 0));
        Edges.sentence(15, "- `w`: weekday");
        Edges.sentence(15, "Throws `IndexOutOfBoundsException` if there is no such customer or weekday");
        Edges.range(Edges.PLACE, Edges.BUSY, "change(3, #, 9)", 0, 6, (x, w) -> x.change(3, w, 9));
        for (int n : new int[] {-1, 10}) {
            Edges.refused(Edges.PLACE, Edges.BUSY, "change(4, 0, " + n + ")", x -> x.change(4, 0, n));
            Edges.refused(Edges.PLACE, Edges.BUSY, "change(-1, 0, " + n + ")", x -> x.change(-1, 0, n));
            Edges.refused(Edges.PLACE, Edges.BUSY, "change(0, 7, " + n + ")", x -> x.change(0, 7, n));
            Edges.refused(Edges.PLACE, Edges.BUSY, "change(0, -1, " + n + ")", x -> x.change(0, -1, n));
        }
        Edges.sentence(15, "- `n`: 0 to 9");
        Edges.sentence(15, "Throws `IllegalArgumentException` if n is out of range");
        Edges.range(Edges.ARGUMENT, Edges.BUSY, "change(0, 0, #)", 0, 9, (x, n) -> x.change(0, 0, n));
        Edges.range(Edges.ARGUMENT, Edges.FULL, "change(9, 6, #)", 0, 9, (x, n) -> x.change(9, 6, n));
    }

    private static void holiday() {
        Edges.sentence(16, "Adds a holiday. (Holidays may overlap, and may be over.)");
        Edges.sentence(16, "Returns how many holidays the customer has then.");
        LoafRounds x = with(1111111, 1111111);
        x.days(10);
        Edges.is("holiday(0, 0, 9) that is over", x.holiday(0, 0, 9), 1);
        Edges.is("holiday(0, 11, 12)", x.holiday(0, 11, 12), 2);
        Edges.is("holiday(0, 11, 12) that is told already", x.holiday(0, 11, 12), 3);
        Edges.customerOf("three holidays", x, 0, 8, 3, 9, 1, 10, 10);
        Edges.customerOf("the other one", x, 1, 8, 0);
        Edges.is("holiday(1, 0, 999) of the other one", x.holiday(1, 0, 999), 1);
        Edges.is("days(4)", x.days(4), 2);
        Edges.is("what was got in the days that are over", x.customerOf(0, 3), 12);
        Edges.sentence(16, "- `from`: its first day, 0 to 999");
        Edges.range(Edges.ARGUMENT, Edges.BUSY, "holiday(2, #, 999)", 0, 999, (y, from) -> y.holiday(2, from, 999));
        Edges.sentence(16, "- `to`: its last day, from to 999");
        for (int from : new int[] {0, 1, 500, 998, 999}) {
            Edges.range(Edges.ARGUMENT, Edges.BUSY, "holiday(2, " + from + ", #)", from, 999,
                    (y, to) -> y.holiday(2, from, to));
        }
        LoafRounds z = with(0);
        z.holiday(0, 0, 0);
        z.holiday(0, 999, 999);
        z.holiday(0, 0, 999);
        int[] days = {0, 0, 999, 999, 0, 999};
        for (int i = 0; i < 6; i++) {
            Edges.is("away(0, " + i / 2 + ", " + i % 2 + ")", z.away(0, i / 2, i % 2), days[i]);
        }
    }

    private static void holidayRefuses() {
        Edges.sentence(16, "- `c`: customer");
        Edges.sentence(16, "Throws `IndexOutOfBoundsException` if there is no such customer");
        Edges.range(Edges.PLACE, Edges.BUSY, "holiday(#, 0, 999)", 0, 3, (x, c) -> x.holiday(c, 0, 999));
        Edges.refused(Edges.PLACE, Edges.NEW, "holiday(0, 0, 0)", x -> x.holiday(0, 0, 0));
        Edges.refused(Edges.PLACE, Edges.FULL, "holiday(10, 0, 0)", x -> x.holiday(10, 0, 0));
        int[][] wrong = {{-1, 0}, {1000, 1000}, {5, 4}, {0, 1000}, {0, -1}, {-2, -1}};
        Edges.sentence(16, "Throws `IllegalArgumentException` if from or to is out of range");
        for (int[] of : wrong) {
            String told = ", " + of[0] + ", " + of[1] + ")";
            Edges.refused(Edges.PLACE, Edges.BUSY, "holiday(4" + told, x -> x.holiday(4, of[0], of[1]));
            Edges.refused(Edges.PLACE, Edges.BUSY, "holiday(-1" + told, x -> x.holiday(-1, of[0], of[1]));
            Edges.refused(Edges.ARGUMENT, Edges.BUSY, "holiday(0" + told, x -> x.holiday(0, of[0], of[1]));
            Edges.refused(Edges.ARGUMENT, Edges.FULL, "holiday(0" + told, x -> x.holiday(0, of[0], of[1]));
        }
        Edges.sentence(16, "Throws `IllegalStateException` if the customer has 3");
        for (int c : new int[] {0, 9}) {
            Edges.refused(Edges.STATE, Edges.FULL, "holiday(" + c + ", 0, 0)", x -> x.holiday(c, 0, 0));
            Edges.refused(Edges.STATE, Edges.FULL, "holiday(" + c + ", 999, 999)", x -> x.holiday(c, 999, 999));
        }
        LoafRounds x = Edges.FULL.get();
        x.drop(0, 0);
        Edges.is("holiday(0, 0, 0) behind drop", x.holiday(0, 0, 0), 3);
    }

    private static void drop() {
        Edges.sentence(17, "Drops a holiday; those told behind it get numbers that are 1 less.");
        Edges.sentence(17, "Returns how many holidays the customer has then.");
        for (int k = 0; k < 3; k++) {
            LoafRounds x = with(1111111);
            for (int i = 0; i < 3; i++) {
                x.holiday(0, 10 + i, 20 + i);
            }
            Edges.is("drop(0, " + k + ")", x.drop(0, k), 2);
            for (int i = 0; i < 2; i++) {
                int was = i < k ? i : i + 1;
                Edges.is("first day of " + i, x.away(0, i, 0), 10 + was);
                Edges.is("last day of " + i, x.away(0, i, 1), 20 + was);
            }
            Edges.is("first day of 2", x.away(0, 2, 0), -1);
            Edges.is("last day of 2", x.away(0, 2, 1), -1);
            Edges.is("drop(0, 1)", x.drop(0, 1), 1);
            Edges.is("first day of 0", x.away(0, 0, 0), k == 0 ? 11 : 10);
            Edges.is("drop(0, 0)", x.drop(0, 0), 0);
            Edges.is("first day of 0", x.away(0, 0, 0), -1);
            Edges.is("due in what were holidays", x.due(0, 10, 13, 0), 13);
            Edges.is("holiday(0, 7, 8)", x.holiday(0, 7, 8), 1);
            Edges.is("first day of 0", x.away(0, 0, 0), 7);
        }
    }

    private static void dropRefuses() {
        Edges.sentence(17, "- `c`: customer");
        Edges.sentence(17, "- `k`: which holiday");
        Edges.sentence(17, "Throws `IndexOutOfBoundsException` if there is no such customer or holiday");
        Edges.range(Edges.PLACE, Edges.FULL, "drop(0, #)", 0, 2, (x, k) -> x.drop(0, k));
        Edges.range(Edges.PLACE, Edges.FULL, "drop(9, #)", 0, 2, (x, k) -> x.drop(9, k));
        // Customer 0 has two, customer 1 one, customer 2 none.
        Edges.range(Edges.PLACE, Edges.BUSY, "drop(0, #)", 0, 1, (x, k) -> x.drop(0, k));
        Edges.range(Edges.PLACE, Edges.BUSY, "drop(1, #)", 0, 0, (x, k) -> x.drop(1, k));
        for (int k = -1; k <= 3; k++) {
            int which = k;
            Edges.refused(Edges.PLACE, Edges.BUSY, "drop(2, " + k + ")", x -> x.drop(2, which));
            Edges.refused(Edges.PLACE, Edges.NEW, "drop(0, " + k + ")", x -> x.drop(0, which));
        }
        Edges.range(Edges.PLACE, Edges.BUSY, "drop(#, 0)", 0, 1, (x, c) -> x.drop(c, 0));
        Edges.refused(Edges.PLACE, Edges.BUSY, "drop(4, 0)", x -> x.drop(4, 0));
        Edges.refused(Edges.PLACE, Edges.FULL, "drop(10, 0)", x -> x.drop(10, 0));
    }

    private static void close() {
        Edges.sentence(18, "Closes a street on a weekday, or opens it.");
        Edges.sentence(18, "Returns on how many weekdays it is closed then.");
        Edges.sentence(18, "- `on`: whether it is closed then");
        for (int s = 0; s < 4; s++) {
            LoafRounds x = new LoafRounds();
            Edges.is("close(" + s + ", 0, false) that is open", x.close(s, 0, false), 0);
            for (int w = 0; w < 7; w++) {
                Edges.is("close(" + s + ", " + w + ", true)", x.close(s, w, true), w + 1);
                Edges.is("close(" + s + ", " + w + ", true) again", x.close(s, w, true), w + 1);
                Edges.is("isClosed(" + s + ", " + w + ")", x.isClosed(s, w), 1);
            }
            Edges.is("close of another", x.close(3 - s, 6, true), 1);
            for (int w = 6; w >= 0; w--) {
                Edges.is("close(" + s + ", " + w + ", false)", x.close(s, w, false), w);
                Edges.is("close(" + s + ", " + w + ", false) again", x.close(s, w, false), w);
                Edges.is("isClosed(" + s + ", " + w + ")", x.isClosed(s, w), 0);
            }
        }
        Edges.sentence(18, "- `s`: street");
        Edges.sentence(18, "- `w`: weekday");
        Edges.sentence(18, "Throws `IndexOutOfBoundsException` if there is no such street or weekday");
        Edges.range(Edges.PLACE, Edges.BUSY, "close(#, 6, true)", 0, 3, (x, s) -> x.close(s, 6, true));
        Edges.range(Edges.PLACE, Edges.BUSY, "close(#, 0, false)", 0, 3, (x, s) -> x.close(s, 0, false));
        Edges.range(Edges.PLACE, Edges.BUSY, "close(0, #, true)", 0, 6, (x, w) -> x.close(0, w, true));
        Edges.range(Edges.PLACE, Edges.BUSY, "close(3, #, false)", 0, 6, (x, w) -> x.close(3, w, false));
        Edges.refused(Edges.PLACE, Edges.BUSY, "close(4, -7, true)", x -> x.close(4, -7, true));
        Edges.refused(Edges.PLACE, Edges.BUSY, "close(-1, 7, true)", x -> x.close(-1, 7, true));
    }

    private static void swap() {
        Edges.sentence(19, "Exchanges two streets in the round.");
        Edges.sentence(19, "Returns the place of the first one then.");
        for (int s = 0; s < 4; s++) {
            for (int other = 0; other < 4; other++) {
                LoafRounds x = new LoafRounds();
                x.swap(0, 2);
                // The round is 2, 1, 0, 3.
                int[] placeOf = {2, 1, 0, 3};
                Edges.is("swap(" + s + ", " + other + ")", x.swap(s, other), placeOf[other]);
                for (int street = 0; street < 4; street++) {
                    int place = placeOf[street == s ? other : street == other ? s : street];
                    Edges.is("round(" + place + ")", x.round(place), street);
                }
                Edges.is("undo()", x.undo(), 1);
            }
        }
        Edges.sentence(19, "- `s`: street");
        Edges.sentence(19, "- `other`: street");
        Edges.sentence(19, "Throws `IndexOutOfBoundsException` if there is no such street");
        Edges.range(Edges.PLACE, Edges.BUSY, "swap(#, 3)", 0, 3, (x, s) -> x.swap(s, 3));
        Edges.range(Edges.PLACE, Edges.BUSY, "swap(3, #)", 0, 3, (x, s) -> x.swap(3, s));
        Edges.range(Edges.PLACE, Edges.NEW, "swap(#, #)", 0, 3, (x, s) -> x.swap(s, s));
    }

    private static void set() {
        Edges.sentence(20, "Changes a setting.");
        Edges.sentence(20, "Returns the previous one.");
        Edges.sentence(20, "- `v`: the new value, in its range");
        int[] least = {0, 0, 0, 0, 1};
        int[] greatest = {99, 9, 9, 30, 20};
        for (int what = 0; what < 5; what++) {
            int which = what;
            LoafRounds x = new LoafRounds();
            int previous = x.setting(what);
            for (int v = least[what]; v <= greatest[what]; v++) {
                Edges.is("set(" + what + ", " + v + ")", x.set(what, v), previous);
                Edges.is("setting(" + what + ")", x.setting(what), v);
                previous = v;
            }
            for (int other = 0; other < 5; other++) {
                Edges.is("setting(" + other + ")", x.setting(other),
                        other == what ? greatest[what] : new LoafRounds().setting(other));
            }
            Edges.range(Edges.ARGUMENT, Edges.FULL, "set(" + what + ", #)", least[what], greatest[what],
                    (y, v) -> y.set(which, v));
        }
        Edges.sentence(20, "- `what`: 0 to 4");
        Edges.sentence(20, "Throws `IllegalArgumentException` if what or v is out of range");
        Edges.range(Edges.ARGUMENT, Edges.BUSY, "set(#, 1)", 0, 4, (x, what) -> x.set(what, 1));
        Edges.range(Edges.ARGUMENT, Edges.BUSY, "set(#, 9)", 0, 4, (x, what) -> x.set(what, 9));
        Edges.refused(Edges.ARGUMENT, Edges.BUSY, "set(5, -1)", x -> x.set(5, -1));
        Edges.refused(Edges.ARGUMENT, Edges.BUSY, "set(-1, 100)", x -> x.set(-1, 100));
    }

    private static void days() {
        Edges.sentence(21, "Delivers days, from today on.");
        LoafRounds x = with(1234567);
        x.set(1, 0);
        int all = 0;
        int today = 0;
        for (int n : new int[] {1, 6, 7, 8, 59, 60}) {
            int want = 0;
            for (int day = today; day < today + n; day++) {
                want += day % 7 + 1;
            }
            Edges.is("days(" + n + ") from day " + today, x.days(n), want);
            today += n;
            all += want;
            Edges.about("days to " + today, x, 1, today, 2, all, 3, all, 8, 3 * all);
        }
        LoafRounds once = Edges.BUSY.get();
        LoafRounds dayByDay = Edges.BUSY.get();
        int loaves = 0;
        for (int day = 0; day < 60; day++) {
            loaves += dayByDay.days(1);
        }
        Edges.is("days(60)", once.days(60), loaves);
        Edges.looks("behind 60 days", once, dayByDay);
        Edges.sentence(21, "- `n`: 1 to 60");
        Edges.sentence(21, "Throws `IllegalArgumentException` if n is out of range");
        Edges.range(Edges.ARGUMENT, Edges.NEW, "days(#)", 1, 60, LoafRounds::days);
        Edges.range(Edges.ARGUMENT, Edges.BUSY, "days(#)", 1, 60, LoafRounds::days);
    }

    private static void daysAnswers() {
        Edges.sentence(21, "Returns how many loaves customers got in them, those that made credits good too.");
        LoafRounds x = with(5000000, 4000000);
        x.set(0, 5);
        Edges.is("days(1), 5 of 9 that are due", x.days(1), 5);
        Edges.is("days(1), 1 made good", x.days(1), 1);
        Edges.is("days(6), 3 made good and 5 that are due", x.days(6), 8);
        Edges.about("8 days", x, 3, 10, 4, 4, 6, 4);
        Edges.is("days(60) without customers", new LoafRounds().days(60), 0);
        LoafRounds y = with(9999999);
        y.holiday(0, 0, 59);
        Edges.is("days(60) of a holiday", y.days(60), 0);
        Edges.is("days(1) behind it", y.days(1), 9);
        LoafRounds z = with(9999999);
        z.set(0, 0);
        Edges.is("days(60) of no oven", z.days(60), 0);
        Edges.about("60 days of no oven", z, 2, 0, 6, 10, 7, 530, 8, 1620, 9, 1590, 10, 60, 11, 0);
    }

    private static void undo() {
        Edges.sentence(22, "Takes back the last action that is remembered.");
        Edges.sentence(22, "Returns how many states are still remembered.");
        LoafRounds x = with(0);
        x.set(0, 1);
        Edges.is("undo() of two", x.undo(), 1);
        Edges.is("setting(0)", x.setting(0), 30);
        Edges.is("undo() of one", x.undo(), 0);
        Edges.is("customers", x.about(0), 0);
        Edges.sentence(22, "Throws `IllegalStateException` if none is remembered");
        Edges.refused(Edges.STATE, Edges.NEW, "undo()", LoafRounds::undo);
        Edges.refused(Edges.STATE, EdgesOfActions::undone, "undo()", LoafRounds::undo);
        Edges.refused(Edges.STATE, EdgesOfActions::restored, "undo()", LoafRounds::undo);
    }

    private static LoafRounds undone() {
        LoafRounds x = Edges.FULL.get();
        for (int i = 0; i < 14; i++) {
            x.undo();
        }
        return x;
    }

    private static LoafRounds restored() {
        LoafRounds x = Edges.BUSY.get();
        x.restore(1);
        return x;
    }

    private static void rememberedStates() {
        before("At most 14 states are remembered; when one more is remembered, the oldest one is forgotten.");
        for (int actions = 0; actions <= 40; actions++) {
            LoafRounds x = new LoafRounds();
            for (int i = 1; i <= actions; i++) {
                x.set(0, i);
            }
            int kept = Math.min(14, actions);
            for (int i = 1; i <= kept; i++) {
                Edges.is("undo() " + i + " of " + actions, x.undo(), kept - i);
                Edges.is("setting(0)", x.setting(0), actions == i ? 30 : actions - i);
            }
            int left = x.setting(0);
            try {
                x.undo();
                Edges.is("undo() of none", 0, 1);
            } catch (IllegalStateException e) {
                Edges.is("setting(0) behind a refused undo()", x.setting(0), left);
            }
        }
        LoafRounds x = new LoafRounds();
        for (int i = 1; i <= 14; i++) {
            x.set(0, i);
        }
        x.undo();
        x.undo();
        x.set(0, 50);
        Edges.is("undo() of an action behind undo()", x.undo(), 12);
        Edges.is("setting(0)", x.setting(0), 12);
        Edges.is("undo()", x.undo(), 11);
        Edges.is("setting(0)", x.setting(0), 11);
    }

    private static void isAction(String told, Edges.Call call) {
        LoafRounds x = Edges.BUSY.get();
        String look = Checks.lookOf(x);
        call.on(x);
        Edges.is("undo() behind " + told, x.undo(), 13);
        Checks.same("what can be seen behind undo of " + told, Checks.lookOf(x), look);
        LoafRounds y = new LoafRounds();
        y.customer(0, 0);
        y.holiday(0, 5, 5);
        call.on(y);
        Edges.is("undo() of three, behind " + told, y.undo(), 2);
    }

    private static void whatIsAnAction() {
        before("Each call of one of them that does not throw an exception is an action, "
                + "also if nothing becomes different (undo is none).");
        isAction("customer", x -> x.customer(0, 0));
        isAction("change of nothing", x -> x.change(0, 0, x.ordered(0, 0)));
        isAction("holiday", x -> x.holiday(0, 0, 0));
        isAction("drop", x -> x.drop(0, 0));
        isAction("close that opens what is open", x -> x.close(3, 3, false));
        isAction("swap of a street with itself", x -> x.swap(1, 1));
        isAction("set of nothing else", x -> x.set(3, x.setting(3)));
        isAction("days", x -> x.days(1));
        LoafRounds x = new LoafRounds();
        x.set(0, 1);
        x.set(0, 2);
        x.undo();
        Edges.is("undo() of undo()", x.undo(), 0);
        Edges.is("setting(0)", x.setting(0), 30);
    }

    private static void whatIsNoAction() {
        before("which consists of everything but the text and the save slots");
        LoafRounds x = Edges.BUSY.get();
        x.set(0, 1);
        x.append('d');
        x.save(0);
        Edges.is("undo() behind append() and save()", x.undo(), 13);
        Edges.is("clearText() behind undo()", x.clearText(), 14);
        Edges.is("restore(0) behind undo()", x.restore(0), 4);
        Edges.is("setting(0) behind restore(0)", x.setting(0), 1);
        before("load and restore are not actions.");
        LoafRounds y = Edges.BUSY.get();
        y.restore(0);
        y.set(0, 1);
        Edges.is("undo() of one behind restore(0)", y.undo(), 0);
        y.load();
        y.set(0, 1);
        Edges.is("undo() of one behind load()", y.undo(), 0);
    }
}
