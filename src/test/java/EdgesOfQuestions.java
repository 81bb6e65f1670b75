/** The boundary cases of promises 6 to 13: about, customerOf, ordered, away, isClosed, round, setting, due. */
final class EdgesOfQuestions {
    private EdgesOfQuestions() {
    }

    static void run() {
        about();
        customerOf();
        customerOfRefuses();
        nextDueDay();
        nextDueDayFromToday();
        ordered();
        away();
        awayRefuses();
        isClosed();
        round();
        setting();
        due();
        dueAtTheEdges();
        dueInHolidays();
        dueRefuses();
    }

    /** Places of customers: those that are there, and those that are not. */
    private static void customers(String told, Edges.NumberCall call) {
        Edges.range(Edges.PLACE, Edges.BUSY, told, 0, 3, call);
        Edges.range(Edges.PLACE, Edges.FULL, told, 0, 9, call);
        Edges.refused(Edges.PLACE, Edges.NEW, told.replace("#", "0"), x -> call.on(x, 0));
    }

    private static void about() {
        Edges.sentence(6, "Returns a number.");
        Edges.sentence(6, "0: the customers; 1: today; 2: loaves baked so far; "
                + "3: loaves that customers got so far of what was due; 4: loaves that made credits good so far; "
                + "5: loaves gone stale so far; 6: the credits of all customers together; "
                + "7: loaves paid back so far; 8: coins paid so far; 9: coins paid back so far; "
                + "10: drops missed so far; 11: short ones so far; 12: loaves due to all customers today");
        // Day 0: 7 for 9 due, 2 lacking; day 1: 7 for 9, 2 more lacking; day 2: 10 for 9, 1 made good, 1 paid back.
        LoafRounds x = new LoafRounds();
        x.customer(0, 4444440);
        x.customer(1, 5554440);
        x.set(3, 2);
        x.set(0, 7);
        x.days(2);
        x.set(0, 30);
        x.set(3, 0);
        x.days(1);
        Edges.sentence(6, "Returns that number.");
        Edges.about("three days", x, 0, 2, 1, 3, 2, 24, 3, 23, 4, 1, 5, 0, 6, 0, 7, 3, 8, 81, 9, 9, 10, 0, 11, 2,
                12, 8);
        x.set(0, 4);
        x.days(1);
        Edges.about("a fourth day", x, 2, 28, 3, 27, 6, 0, 7, 7, 8, 105, 9, 21, 10, 1, 11, 2, 12, 8);
        x.days(2);
        Edges.about("the last weekday", x, 1, 6, 12, 0);
        for (int what = 0; what <= 12; what++) {
            int number = what;
            Edges.is("about(" + what + ") of no customers", new LoafRounds().about(what), 0);
            Edges.changesNothing(Edges.BUSY, "about(" + what + ")", y -> y.about(number));
        }
        Edges.sentence(6, "Throws `IllegalArgumentException` if what is not 0 to 12");
        Edges.range(Edges.ARGUMENT, Edges.BUSY, "about(#)", 0, 12, LoafRounds::about);
        Edges.range(Edges.ARGUMENT, Edges.NEW, "about(#)", 0, 12, LoafRounds::about);
    }

    private static void customerOf() {
        Edges.sentence(7, "Returns a number of a customer.");
        Edges.sentence(7, "0: the street; 1: the loaves of all weekdays together; 2: the credit; "
                + "3: the loaves got so far of what was due; 4: those that made the credit good so far; "
                + "5: loaves paid back so far; 6: drops missed so far; 7: short ones so far; "
                + "8: the holidays, how many; 9: what is due today");
        LoafRounds x = new LoafRounds();
        x.customer(3, 9999999);
        x.customer(0, 0);
        x.set(0, 4);
        x.days(1);
        x.set(0, 0);
        x.days(1);
        x.set(0, 30);
        x.days(1);
        x.holiday(0, 3, 3);
        x.holiday(0, 999, 999);
        Edges.sentence(7, "Returns that number.");
        // Lacking 5, then 9: 4 paid back; then 1 made good.
        Edges.customerOf("three days", x, 0, 0, 3, 1, 63, 2, 9, 3, 13, 4, 1, 5, 4, 6, 1, 7, 1, 8, 2, 9, 0, 10, 4);
        Edges.customerOf("nothing ordered", x, 1, 0, 0, 1, 0, 2, 0, 3, 0, 4, 0, 5, 0, 6, 0, 7, 0, 8, 0, 9, 0, 10, -1);
        x.drop(0, 0);
        Edges.customerOf("no holiday today", x, 0, 8, 1, 9, 9, 10, 3);
    }

    private static void customerOfRefuses() {
        Edges.sentence(7, "- `c`: customer");
        Edges.sentence(7, "Throws `IndexOutOfBoundsException` if there is no such customer");
        for (int what = 0; what <= 10; what++) {
            int number = what;
            customers("customerOf(#, " + what + ")", (x, c) -> x.customerOf(c, number));
            Edges.changesNothing(Edges.BUSY, "customerOf(0, " + what + ")", y -> y.customerOf(0, number));
        }
        for (int what : new int[] {-1, 11}) {
            Edges.refused(Edges.PLACE, Edges.BUSY, "customerOf(4, " + what + ")", x -> x.customerOf(4, what));
            Edges.refused(Edges.PLACE, Edges.BUSY, "customerOf(-1, " + what + ")", x -> x.customerOf(-1, what));
            Edges.refused(Edges.PLACE, Edges.NEW, "customerOf(0, " + what + ")", x -> x.customerOf(0, what));
        }
        Edges.sentence(7, "Throws `IllegalArgumentException` if what is not 0 to 10");
        Edges.range(Edges.ARGUMENT, Edges.BUSY, "customerOf(0, #)", 0, 10, (x, what) -> x.customerOf(0, what));
        Edges.range(Edges.ARGUMENT, Edges.FULL, "customerOf(9, #)", 0, 10, (x, what) -> x.customerOf(9, what));
    }

    /** One customer, with a loaf on one weekday alone and one long holiday. */
    private static LoafRounds seldom(int w, int from, int to) {
        LoafRounds x = new LoafRounds();
        x.customer(0, 0);
        x.change(0, w, 1);
        x.holiday(0, from, to);
        return x;
    }

    private static void nextDueDay() {
        Edges.sentence(7, "10: the next day from today on, at most 200 days later, on which anything is due, "
                + "NONE if there is none");
        // Day 200 is a weekday 4, day 199 a weekday 3, day 201 a weekday 5.
        Edges.customerOf("due on day 200", seldom(4, 0, 199), 0, 10, 200);
        Edges.customerOf("due on day 199", seldom(3, 0, 198), 0, 10, 199);
        Edges.customerOf("due on day 201", seldom(5, 0, 200), 0, 10, -1);
        Edges.customerOf("due on day 207", seldom(4, 0, 200), 0, 10, -1);
        Edges.customerOf("due today", seldom(0, 1, 999), 0, 10, 0);
        Edges.customerOf("due tomorrow", seldom(1, 0, 0), 0, 10, 1);
        Edges.customerOf("due on day 6", seldom(6, 7, 7), 0, 10, 6);
        Edges.customerOf("due on day 7", seldom(0, 0, 6), 0, 10, 7);
        LoafRounds x = new LoafRounds();
        x.customer(0, 0);
        Edges.customerOf("nothing ordered", x, 0, 10, -1);
    }

    private static void nextDueDayFromToday() {
        Edges.sentence(7, "10: the next day from today on, at most 200 days later");
        LoafRounds x = seldom(3, 0, 198);
        x.days(60);
        x.days(60);
        x.days(60);
        Edges.customerOf("day 180", x, 0, 10, 199);
        x.days(19);
        Edges.customerOf("day 199", x, 0, 10, 199);
        x.days(1);
        Edges.customerOf("day 200", x, 0, 10, 206);
        x.holiday(0, 200, 405);
        Edges.customerOf("day 200, away to day 405", x, 0, 10, -1);
        x.days(8);
        Edges.customerOf("day 208, away to day 405", x, 0, 10, -1);
        x.days(1);
        Edges.customerOf("day 209, away to day 405", x, 0, 10, 409);
        x.close(0, 3, true);
        Edges.customerOf("day 209, the street closed", x, 0, 10, 409);
    }

    private static void ordered() {
        Edges.sentence(8, "Returns the loaves for a weekday.");
        Edges.sentence(8, "Returns the loaves.");
        LoafRounds x = new LoafRounds();
        x.customer(0, 9000001);
        x.customer(3, 9999999);
        x.holiday(0, 0, 999);
        x.close(0, 0, true);
        int[] want = {9, 0, 0, 0, 0, 0, 1};
        for (int w = 0; w < 7; w++) {
            Edges.is("ordered(0, " + w + ")", x.ordered(0, w), want[w]);
            Edges.is("ordered(1, " + w + ")", x.ordered(1, w), 9);
        }
        Edges.sentence(8, "- `c`: customer");
        customers("ordered(#, 0)", (y, c) -> y.ordered(c, 0));
        customers("ordered(#, 6)", (y, c) -> y.ordered(c, 6));
        Edges.sentence(8, "- `w`: weekday");
        Edges.sentence(8, "Throws `IndexOutOfBoundsException` if there is no such customer or weekday");
        Edges.range(Edges.PLACE, Edges.BUSY, "ordered(0, #)", 0, 6, (y, w) -> y.ordered(0, w));
        Edges.range(Edges.PLACE, Edges.FULL, "ordered(9, #)", 0, 6, (y, w) -> y.ordered(9, w));
        Edges.refused(Edges.PLACE, Edges.BUSY, "ordered(4, 7)", y -> y.ordered(4, 7));
        Edges.changesNothing(Edges.BUSY, "ordered(0, 0)", y -> y.ordered(0, 0));
    }

    private static void away() {
        Edges.sentence(9, "Returns a day of a holiday.");
        Edges.sentence(9, "- `k`: which holiday, from 0 for the one that was told first");
        Edges.sentence(9, "- `what`: 0: its first day; 1: its last day");
        Edges.sentence(9, "Returns the day; NONE if there are not so many.");
        LoafRounds x = new LoafRounds();
        x.customer(0, 0);
        int[][] holidays = {{999, 999}, {0, 0}, {0, 999}};
        for (int told = 0; told <= 3; told++) {
            for (int k = 0; k < 3; k++) {
                Edges.is("first day of " + k + " of " + told, x.away(0, k, 0), k < told ? holidays[k][0] : -1);
                Edges.is("last day of " + k + " of " + told, x.away(0, k, 1), k < told ? holidays[k][1] : -1);
            }
            if (told < 3) {
                x.holiday(0, holidays[told][0], holidays[told][1]);
            }
        }
        x.drop(0, 2);
        Edges.is("first day of one dropped", x.away(0, 2, 0), -1);
        Edges.is("last day of one dropped", x.away(0, 2, 1), -1);
    }

    private static void awayRefuses() {
        Edges.sentence(9, "- `c`: customer");
        customers("away(#, 0, 0)", (x, c) -> x.away(c, 0, 0));
        customers("away(#, 2, 1)", (x, c) -> x.away(c, 2, 1));
        Edges.sentence(9, "Throws `IndexOutOfBoundsException` if there is no such customer, or k is not 0 to 2");
        Edges.range(Edges.PLACE, Edges.FULL, "away(0, #, 0)", 0, 2, (x, k) -> x.away(0, k, 0));
        Edges.range(Edges.PLACE, Edges.BUSY, "away(2, #, 1)", 0, 2, (x, k) -> x.away(2, k, 1));
        for (int what : new int[] {-1, 2}) {
            Edges.refused(Edges.PLACE, Edges.BUSY, "away(4, 0, " + what + ")", x -> x.away(4, 0, what));
            Edges.refused(Edges.PLACE, Edges.BUSY, "away(-1, 0, " + what + ")", x -> x.away(-1, 0, what));
            Edges.refused(Edges.PLACE, Edges.BUSY, "away(0, 3, " + what + ")", x -> x.away(0, 3, what));
            Edges.refused(Edges.PLACE, Edges.BUSY, "away(0, -1, " + what + ")", x -> x.away(0, -1, what));
        }
        Edges.sentence(9, "Throws `IllegalArgumentException` if what is neither 0 nor 1");
        Edges.range(Edges.ARGUMENT, Edges.FULL, "away(9, 2, #)", 0, 1, (x, what) -> x.away(9, 2, what));
        // A holiday that is not there is no reason to answer NONE to a wrong question.
        Edges.range(Edges.ARGUMENT, Edges.BUSY, "away(2, 0, #)", 0, 1, (x, what) -> x.away(2, 0, what));
        Edges.changesNothing(Edges.BUSY, "away(0, 0, 0)", x -> x.away(0, 0, 0));
    }

    private static void isClosed() {
        Edges.sentence(10, "Tells whether a street is closed.");
        Edges.sentence(10, "Returns 1 if it is, otherwise 0.");
        for (int s = 0; s < 4; s++) {
            for (int w = 0; w < 7; w++) {
                LoafRounds x = new LoafRounds();
                x.close(s, w, true);
                for (int i = 0; i < 28; i++) {
                    Edges.is("isClosed(" + i / 7 + ", " + i % 7 + ") of " + s + ", " + w, x.isClosed(i / 7, i % 7),
                            i == 7 * s + w ? 1 : 0);
                }
            }
        }
        Edges.sentence(10, "- `s`: street");
        Edges.sentence(10, "- `w`: weekday");
        Edges.sentence(10, "Throws `IndexOutOfBoundsException` if there is no such street or weekday");
        Edges.range(Edges.PLACE, Edges.BUSY, "isClosed(#, 0)", 0, 3, (x, s) -> x.isClosed(s, 0));
        Edges.range(Edges.PLACE, Edges.BUSY, "isClosed(#, 6)", 0, 3, (x, s) -> x.isClosed(s, 6));
        Edges.range(Edges.PLACE, Edges.BUSY, "isClosed(0, #)", 0, 6, (x, w) -> x.isClosed(0, w));
        Edges.range(Edges.PLACE, Edges.BUSY, "isClosed(3, #)", 0, 6, (x, w) -> x.isClosed(3, w));
        Edges.refused(Edges.PLACE, Edges.BUSY, "isClosed(4, -7)", x -> x.isClosed(4, -7));
        Edges.changesNothing(Edges.BUSY, "isClosed(2, 0)", x -> x.isClosed(2, 0));
    }

    private static void round() {
        Edges.sentence(11, "Returns a street of the round.");
        Edges.sentence(11, "Returns the street.");
        LoafRounds x = new LoafRounds();
        x.swap(0, 3);
        x.swap(1, 3);
        int[] want = {1, 3, 2, 0};
        for (int place = 0; place < 4; place++) {
            Edges.is("round(" + place + ")", x.round(place), want[place]);
        }
        Edges.sentence(11, "- `place`: 0 to 3");
        Edges.sentence(11, "Throws `IndexOutOfBoundsException` if there is no such place");
        Edges.range(Edges.PLACE, Edges.NEW, "round(#)", 0, 3, LoafRounds::round);
        Edges.range(Edges.PLACE, Edges.BUSY, "round(#)", 0, 3, LoafRounds::round);
        Edges.changesNothing(Edges.BUSY, "round(3)", y -> y.round(3));
    }

    private static void setting() {
        Edges.sentence(12, "Returns a setting.");
        Edges.sentence(12, "Returns that setting.");
        LoafRounds x = new LoafRounds();
        int[] want = {98, 8, 7, 29, 19};
        for (int what = 0; what < 5; what++) {
            x.set(what, want[what]);
        }
        for (int what = 0; what < 5; what++) {
            Edges.is("setting(" + what + ")", x.setting(what), want[what]);
        }
        Edges.sentence(12, "- `what`: 0 to 4");
        Edges.sentence(12, "Throws `IllegalArgumentException` if what is out of range");
        Edges.range(Edges.ARGUMENT, Edges.NEW, "setting(#)", 0, 4, LoafRounds::setting);
        Edges.range(Edges.ARGUMENT, Edges.BUSY, "setting(#)", 0, 4, LoafRounds::setting);
        Edges.changesNothing(Edges.BUSY, "setting(4)", y -> y.setting(4));
    }

    private static void due(LoafRounds x, int from, int days, int want) {
        Edges.is("due(0, " + from + ", " + days + ", 0)", x.due(0, from, days, 0), want);
        Edges.is("due(0, " + from + ", " + days + ", 1)", x.due(0, from, days, 1), want);
    }

    private static void due() {
        Edges.sentence(13, "Tells what is due to a customer in a span.");
        Edges.sentence(13, "Returns the loaves (the same for both ways).");
        Edges.sentence(13, "- `way`: 0: told day by day; 1: told by whole weeks and the days that are left, "
                + "less what lies in holidays, each day once");
        for (int from = 0; from <= 40; from++) {
            LoafRounds x = new LoafRounds();
            x.customer(0, 1234567);
            x.holiday(0, 3, 20);
            x.holiday(0, 12, 30);
            x.holiday(0, 990, 999);
            int want = 0;
            for (int days = 0; days <= 40; days++) {
                due(x, from, days, want);
                int day = from + days;
                want += day >= 3 && day <= 30 ? 0 : day % 7 + 1;
            }
        }
    }

    private static void dueAtTheEdges() {
        Edges.sentence(13, "- `from`: first day, 0 to 999");
        LoafRounds x = new LoafRounds();
        x.customer(0, 1234567);
        due(x, 0, 1, 1);
        due(x, 999, 1, 6);
        Edges.sentence(13, "- `days`: how many days, 0 to 500");
        due(x, 0, 0, 0);
        due(x, 999, 0, 0);
        due(x, 0, 500, 28 * 71 + 1 + 2 + 3);
        due(x, 999, 500, 28 * 71 + 6 + 7 + 1);
        due(x, 999, 499, 28 * 71 + 6 + 7);
        LoafRounds y = new LoafRounds();
        y.customer(0, 9999999);
        due(y, 500, 500, 4500);
        y.holiday(0, 500, 998);
        due(y, 500, 500, 9);
        y.holiday(0, 999, 999);
        due(y, 500, 500, 0);
        due(y, 999, 500, 499 * 9);
        due(y, 999, 1, 0);
        due(y, 499, 500, 9);
        y.days(60);
        y.close(0, 0, true);
        due(y, 0, 60, 540);
    }

    private static void dueInHolidays() {
        Edges.sentence(13, "less what lies in holidays, each day once");
        LoafRounds x = new LoafRounds();
        x.customer(0, 1111111);
        x.holiday(0, 10, 19);
        x.holiday(0, 10, 19);
        x.holiday(0, 15, 24);
        due(x, 10, 15, 0);
        due(x, 9, 17, 2);
        due(x, 0, 30, 15);
        due(x, 19, 1, 0);
        due(x, 24, 1, 0);
        due(x, 25, 1, 1);
        due(x, 9, 1, 1);
        due(x, 0, 10, 10);
        due(x, 0, 11, 10);
        due(x, 24, 7, 6);
        due(x, 25, 7, 7);
        LoafRounds y = new LoafRounds();
        y.customer(0, 1111111);
        y.holiday(0, 5, 5);
        y.holiday(0, 0, 999);
        y.holiday(0, 5, 6);
        due(y, 0, 500, 0);
        due(y, 999, 2, 1);
        y.drop(0, 1);
        due(y, 0, 14, 12);
        y.drop(0, 0);
        due(y, 0, 14, 12);
        y.drop(0, 0);
        due(y, 0, 14, 14);
    }

    private static void dueRefuses() {
        Edges.sentence(13, "- `c`: customer");
        Edges.sentence(13, "Throws `IndexOutOfBoundsException` if there is no such customer");
        customers("due(#, 0, 0, 0)", (x, c) -> x.due(c, 0, 0, 0));
        customers("due(#, 999, 500, 1)", (x, c) -> x.due(c, 999, 500, 1));
        int[][] wrong = {{-1, 1, 0}, {1000, 1, 0}, {0, -1, 0}, {0, 501, 1}, {0, 1, -1}, {0, 1, 2}};
        for (int[] of : wrong) {
            Edges.refused(Edges.PLACE, Edges.BUSY, "due(4, " + of[0] + ", " + of[1] + ", " + of[2] + ")",
                    x -> x.due(4, of[0], of[1], of[2]));
        }
        Edges.sentence(13, "Throws `IllegalArgumentException` if from, days or way is out of range");
        for (int way = 0; way <= 1; way++) {
            int told = way;
            Edges.range(Edges.ARGUMENT, Edges.BUSY, "due(0, #, 500, " + way + ")", 0, 999,
                    (x, from) -> x.due(0, from, 500, told));
            Edges.range(Edges.ARGUMENT, Edges.BUSY, "due(0, #, 0, " + way + ")", 0, 999,
                    (x, from) -> x.due(0, from, 0, told));
            Edges.range(Edges.ARGUMENT, Edges.BUSY, "due(0, 999, #, " + way + ")", 0, 500,
                    (x, days) -> x.due(0, 999, days, told));
        }
        Edges.range(Edges.ARGUMENT, Edges.BUSY, "due(0, 0, 0, #)", 0, 1, (x, way) -> x.due(0, 0, 0, way));
        Edges.range(Edges.ARGUMENT, Edges.FULL, "due(9, 999, 500, #)", 0, 1, (x, way) -> x.due(9, 999, 500, way));
        Edges.changesNothing(Edges.BUSY, "due(0, 0, 9, 0)", x -> x.due(0, 0, 9, 0));
        Edges.changesNothing(Edges.BUSY, "due(0, 0, 9, 1)", x -> x.due(0, 0, 9, 1));
    }
}
