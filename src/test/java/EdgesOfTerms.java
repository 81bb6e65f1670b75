/** The boundary cases that the document names before its promises: days and orders, a day's round, settings. */
final class EdgesOfTerms {
    private EdgesOfTerms() {
    }

    static void run() {
        calls();
        divisions();
        weekdays();
        today();
        streets();
        customers();
        loaves();
        holidays();
        daysOfAHoliday();
        atFirst();
        settings();
        baked();
        lastLoaves();
        nothingDue();
        closedOnOneWeekday();
        paid();
        madeGood();
        madeGoodWhere();
        madeGoodInOrder();
        stale();
        paidBack();
        paidBackAtTheEnd();
    }

    private static void sentence(String words) {
        Edges.sentence(Document.BEFORE, words);
    }

    /** One customer in street 0, nothing to spare, this oven. */
    private static LoafRounds one(int week, int oven) {
        LoafRounds x = new LoafRounds();
        x.customer(0, week);
        x.set(1, 0);
        x.set(0, oven);
        return x;
    }

    private static void calls() {
        sentence("An object is used for at most 512 calls after it has been made");
        LoafRounds x = new LoafRounds();
        x.customer(0, 1111111);
        for (int i = 2; i <= 509; i++) {
            x.days(60);
        }
        Edges.is("call 510, days(60)", x.days(60), 60);
        Edges.is("call 511, about(1)", x.about(1), 509 * 60);
        Edges.is("call 512, undo()", x.undo(), 13);
    }

    private static void divisions() {
        sentence("All divisions are rounded down.");
        LoafRounds x = one(1234567, 99);
        int[] want = {0, 1, 3, 6, 10, 15, 21, 28, 29, 31, 34, 38, 43, 49, 56};
        for (int days = 0; days < want.length; days++) {
            Edges.is("due by whole weeks of " + days + " days", x.due(0, 0, days, 1), want[days]);
        }
    }

    private static void weekdays() {
        sentence("Days are numbered from 0; the day d is the weekday d modulo 7.");
        LoafRounds x = one(1234567, 99);
        for (int day = 0; day <= 15; day++) {
            Edges.is("due on day " + day, x.customerOf(0, 9), day % 7 + 1);
            Edges.is("days(1) on day " + day, x.days(1), day % 7 + 1);
        }
        Edges.is("due on day 6", x.due(0, 6, 1, 0), 7);
        Edges.is("due on day 7", x.due(0, 7, 1, 0), 1);
        Edges.is("due on day 999", x.due(0, 999, 1, 0), 6);
    }

    private static void today() {
        sentence("Today is the day that is delivered next, at first 0.");
        LoafRounds x = one(5000000, 99);
        Edges.is("today at first", x.about(1), 0);
        Edges.is("days(1)", x.days(1), 5);
        sentence("Then today is the next day.");
        Edges.is("today behind a day", x.about(1), 1);
        Edges.is("days(6)", x.days(6), 0);
        Edges.is("today behind a week", x.about(1), 7);
        Edges.is("days(1)", x.days(1), 5);
    }

    private static void streets() {
        sentence("There are 4 streets, numbered from 0.");
        Edges.range(Edges.PLACE, Edges.BUSY, "customer(#, 0)", 0, 3, (x, s) -> x.customer(s, 0));
        Edges.range(Edges.PLACE, Edges.BUSY, "isClosed(#, 0)", 0, 3, (x, s) -> x.isClosed(s, 0));
        Edges.range(Edges.PLACE, Edges.BUSY, "close(#, 0, true)", 0, 3, (x, s) -> x.close(s, 0, true));
        Edges.range(Edges.PLACE, Edges.BUSY, "swap(#, 0)", 0, 3, (x, s) -> x.swap(s, 0));
        Edges.range(Edges.PLACE, Edges.BUSY, "swap(0, #)", 0, 3, (x, s) -> x.swap(0, s));
    }

    private static void customers() {
        sentence("At most 10 customers are numbered from 0, each in a street");
        LoafRounds x = new LoafRounds();
        for (int c = 0; c < 10; c++) {
            Edges.is("customers", x.about(0), c);
            Edges.is("customer(" + c % 4 + ", 0)", x.customer(c % 4, 0), c);
        }
        Edges.is("customers", x.about(0), 10);
        for (int c = 0; c < 10; c++) {
            Edges.is("the street of " + c, x.customerOf(c, 0), c % 4);
        }
        Edges.refused(Edges.STATE, Edges.FULL, "customer(0, 0)", y -> y.customer(0, 0));
    }

    private static void loaves() {
        sentence("with loaves for each weekday, 0 to 9");
        for (int w = 0; w < 7; w++) {
            int weekday = w;
            Edges.range(Edges.ARGUMENT, Edges.BUSY, "change(0, " + w + ", #)", 0, 9,
                    (x, n) -> x.change(0, weekday, n));
        }
    }

    private static void holidays() {
        sentence("at most 3 holidays");
        LoafRounds x = one(1111111, 99);
        for (int k = 0; k < 3; k++) {
            Edges.is("the holidays", x.customerOf(0, 8), k);
            Edges.is("holiday " + k, x.holiday(0, k, k), k + 1);
        }
        Edges.is("the holidays", x.customerOf(0, 8), 3);
        Edges.refused(Edges.STATE, Edges.FULL, "holiday(0, 5, 5)", y -> y.holiday(0, 5, 5));
        Edges.refused(Edges.STATE, Edges.FULL, "holiday(9, 5, 5)", y -> y.holiday(9, 5, 5));
        Edges.allowed(Edges.FULL, "holiday(8, 5, 5)", y -> y.holiday(8, 5, 5));
    }

    private static void daysOfAHoliday() {
        sentence("each from a day to a day (both included)");
        LoafRounds x = one(1111111, 99);
        x.holiday(0, 2, 4);
        x.holiday(0, 7, 7);
        x.holiday(0, 9, 10);
        sentence("but 0 if the day is in a holiday of the customer");
        int[] due = {1, 1, 0, 0, 0, 1, 1, 0, 1, 0, 0, 1};
        for (int day = 0; day < due.length; day++) {
            Edges.is("due(0, " + day + ", 1, 0)", x.due(0, day, 1, 0), due[day]);
            Edges.is("due(0, " + day + ", 1, 1)", x.due(0, day, 1, 1), due[day]);
            Edges.is("due today, " + day, x.customerOf(0, 9), due[day]);
            Edges.is("due to all today, " + day, x.about(12), due[day]);
            Edges.is("days(1) on day " + day, x.days(1), due[day]);
        }
    }

    private static void atFirst() {
        LoafRounds x = new LoafRounds();
        sentence("and a credit in loaves, at first 0");
        x.customer(0, 9999999);
        Edges.is("the credit", x.customerOf(0, 2), 0);
        sentence("A street can be closed on a weekday; at first none is.");
        for (int s = 0; s < 4; s++) {
            for (int w = 0; w < 7; w++) {
                Edges.is("isClosed(" + s + ", " + w + ")", x.isClosed(s, w), 0);
            }
        }
        sentence("The round is an order of the four streets, at first 0, 1, 2, 3.");
        for (int place = 0; place < 4; place++) {
            Edges.is("round(" + place + ")", x.round(place), place);
        }
        sentence("`NONE = -1`: There is no such result.");
        Edges.is("NONE", LoafRounds.NONE, -1);
    }

    private static void setting(String words, int what, int least, int greatest, int first) {
        sentence(words);
        Edges.is("setting(" + what + ") at first", new LoafRounds().setting(what), first);
        Edges.range(Edges.ARGUMENT, Edges.BUSY, "set(" + what + ", #)", least, greatest, (x, v) -> x.set(what, v));
        LoafRounds x = new LoafRounds();
        Edges.is("set(" + what + ", " + least + ")", x.set(what, least), first);
        Edges.is("set(" + what + ", " + greatest + ")", x.set(what, greatest), least);
        Edges.is("setting(" + what + ")", x.setting(what), greatest);
    }

    private static void settings() {
        setting("0: the oven, 0 to 99, at first 30", 0, 0, 99, 30);
        setting("1: loaves to spare, 0 to 9, at first 1", 1, 0, 9, 1);
        setting("2: loaves made good a day, 0 to 9, at first 2", 2, 0, 9, 2);
        setting("3: the greatest credit, 0 to 30, at first 10", 3, 0, 30, 10);
        setting("4: the price of a loaf, 1 to 20, at first 3", 4, 1, 20, 3);
    }

    private static void bakes(int customers, int week, int spare, int oven, int want) {
        LoafRounds x = new LoafRounds();
        for (int c = 0; c < customers; c++) {
            x.customer(c % 4, week);
        }
        x.set(1, spare);
        x.set(0, oven);
        x.days(1);
        Edges.is("baked for " + customers + " times " + week + ", spare " + spare + ", oven " + oven,
                x.about(2), want);
    }

    private static void baked() {
        sentence("As many loaves are baked as are due to all customers, and setting 1 more, but at most setting 0.");
        bakes(1, 5000000, 1, 5, 5);
        bakes(1, 5000000, 1, 6, 6);
        bakes(1, 5000000, 1, 7, 6);
        bakes(1, 5000000, 1, 0, 0);
        bakes(1, 5000000, 1, 1, 1);
        bakes(1, 5000000, 0, 99, 5);
        bakes(1, 5000000, 9, 99, 14);
        bakes(1, 0, 0, 99, 0);
        bakes(1, 999999, 9, 99, 9);
        bakes(0, 0, 9, 99, 9);
        bakes(0, 0, 9, 8, 8);
        bakes(10, 9000000, 9, 99, 99);
        bakes(10, 9000000, 9, 98, 98);
        bakes(10, 9000000, 8, 99, 98);
        bakes(10, 9000000, 0, 90, 90);
        bakes(10, 9000000, 0, 89, 89);
    }

    /** Two customers of 5 and 4 loaves; the second is the one that the oven is too small for. */
    private static void secondGets(int oven, int got, int missed, int shortOnes) {
        LoafRounds x = one(5000000, oven);
        x.customer(1, 4000000);
        x.days(1);
        String told = "oven " + oven;
        Edges.customerOf(told, x, 0, 3, 5, 2, 0, 6, 0, 7, 0);
        Edges.customerOf(told, x, 1, 3, got, 2, 4 - got, 6, missed, 7, shortOnes);
        Edges.about(told, x, 3, 5 + got, 6, 4 - got, 10, missed, 11, shortOnes, 8, 27, 5, 0);
    }

    private static void lastLoaves() {
        sentence("gets as many of these loaves as there are in the van, as far as they go");
        LoafRounds x = one(5000000, 1);
        Edges.is("days(1) of one loaf", x.days(1), 1);
        Edges.customerOf("one loaf", x, 0, 3, 1, 2, 4, 6, 0, 7, 1);
        sentence("What is lacking is added to the credit.");
        secondGets(8, 3, 0, 1);
        sentence("If anything is due, and the customer gets none, the drop is missed; "
                + "if some, but fewer than due, it is short.");
        secondGets(5, 0, 1, 0);
        secondGets(6, 1, 0, 1);
        secondGets(9, 4, 0, 0);
        secondGets(10, 4, 0, 0);
        LoafRounds y = one(5000000, 0);
        Edges.is("days(1) of no loaf", y.days(1), 0);
        Edges.customerOf("no loaf", y, 0, 3, 0, 2, 5, 6, 1, 7, 0);
    }

    private static void nothingDue() {
        sentence("If anything is due, and the customer gets none, the drop is missed");
        LoafRounds x = one(1000000, 0);
        x.customer(1, 1111111);
        x.holiday(1, 0, 2);
        x.days(3);
        Edges.customerOf("one day due, oven 0", x, 0, 6, 1, 7, 0, 2, 1);
        Edges.customerOf("holidays, oven 0", x, 1, 6, 0, 7, 0, 2, 0);
        Edges.about("holidays, oven 0", x, 8, 3, 10, 1, 11, 0);
    }

    private static void closedOnOneWeekday() {
        sentence("if the street is not closed on that weekday");
        LoafRounds x = one(2222222, 99);
        x.close(0, 1, true);
        x.close(1, 0, true);
        x.set(2, 0);
        int[] gets = {2, 0, 2, 2, 2, 2, 2, 2, 0, 2};
        int credit = 0;
        int missed = 0;
        for (int day = 0; day < gets.length; day++) {
            Edges.is("days(1) on day " + day, x.days(1), gets[day]);
            credit += 2 - gets[day];
            missed += gets[day] == 0 ? 1 : 0;
            Edges.customerOf("day " + day, x, 0, 2, credit, 6, missed, 7, 0);
        }
        Edges.about("two days closed", x, 2, 20, 3, 16, 5, 4, 8, 60);
    }

    private static void paid() {
        sentence("each pays for what is due, setting 4 for a loaf");
        for (int price : new int[] {1, 20}) {
            for (int oven : new int[] {0, 2, 5}) {
                LoafRounds x = one(5000000, oven);
                x.set(4, price);
                x.days(2);
                Edges.is("coins for 5 of oven " + oven + " at " + price, x.about(8), 5 * price);
                Edges.is("coins back", x.about(9), 0);
            }
        }
    }

    /** A credit of 5, and nothing due. */
    private static LoafRounds owed() {
        LoafRounds x = one(5000000, 0);
        x.days(1);
        x.set(0, 99);
        x.set(2, 9);
        x.set(1, 9);
        return x;
    }

    private static void makesGood(int greatest, int spare, int want) {
        LoafRounds x = owed();
        x.set(2, greatest);
        x.set(1, spare);
        String told = "a credit of 5, setting 2 " + greatest + ", spare " + spare;
        Edges.is("days(1) of " + told, x.days(1), want);
        Edges.customerOf(told, x, 0, 2, 5 - want, 3, 0, 4, want, 5, 0, 6, 1);
        Edges.about(told, x, 2, spare, 4, want, 5, spare - want, 6, 5 - want, 7, 0, 8, 15, 9, 0);
    }

    private static void madeGood() {
        sentence("gets loaves that make it good, as many as the credit, but at most setting 2, "
                + "and as far as those in the van go; the credit becomes less by them.");
        makesGood(4, 9, 4);
        makesGood(5, 9, 5);
        makesGood(6, 9, 5);
        makesGood(9, 4, 4);
        makesGood(9, 5, 5);
        makesGood(9, 6, 5);
        makesGood(4, 4, 4);
        makesGood(1, 1, 1);
        makesGood(0, 9, 0);
        makesGood(9, 0, 0);
        makesGood(0, 0, 0);
        LoafRounds x = one(1111111, 99);
        x.set(1, 9);
        x.set(2, 9);
        x.days(3);
        Edges.about("no credit", x, 4, 0, 5, 27, 6, 0);
    }

    private static void madeGoodWhere() {
        sentence("each customer with a credit, who has no holiday on that day, and whose street is not closed");
        int[][] holidays = {{1, 1, 0}, {0, 1, 0}, {1, 999, 0}, {0, 0, 5}, {2, 2, 5}, {2, 999, 5}};
        for (int[] holiday : holidays) {
            LoafRounds x = owed();
            x.holiday(0, holiday[0], holiday[1]);
            Edges.is("made good on day 1, holiday from " + holiday[0] + " to " + holiday[1], x.days(1), holiday[2]);
        }
        int[][] closed = {{0, 1, 0}, {0, 0, 5}, {0, 2, 5}, {1, 1, 5}};
        for (int[] streetAndWeekday : closed) {
            LoafRounds x = owed();
            x.close(streetAndWeekday[0], streetAndWeekday[1], true);
            Edges.is("made good on day 1, closed " + streetAndWeekday[0] + " on " + streetAndWeekday[1],
                    x.days(1), streetAndWeekday[2]);
        }
    }

    private static void madeGoodInOrder() {
        sentence("In the same order once more");
        for (int spare = 0; spare <= 9; spare++) {
            LoafRounds x = one(3000000, 0);
            x.customer(3, 3000000);
            x.customer(0, 3000000);
            x.swap(0, 3);
            x.days(1);
            x.set(0, 99);
            x.set(1, spare);
            x.set(2, 9);
            Edges.is("days(1) of " + spare + " to spare", x.days(1), spare);
            Edges.is("made good in street 3", x.customerOf(1, 4), Math.min(3, spare));
            Edges.is("made good to the first of street 0", x.customerOf(0, 4), Math.max(0, Math.min(3, spare - 3)));
            Edges.is("made good to the second of street 0", x.customerOf(2, 4), Math.max(0, spare - 6));
        }
    }

    private static void stale() {
        sentence("What is left in the van goes stale.");
        LoafRounds x = one(5000000, 99);
        x.days(1);
        Edges.about("a van that is empty", x, 2, 5, 5, 0);
        x.set(1, 1);
        x.days(1);
        Edges.about("a van with one loaf", x, 2, 6, 5, 1);
        x.set(1, 9);
        x.set(0, 7);
        x.days(1);
        Edges.about("a van with an oven's loaves", x, 2, 13, 5, 8);
    }

    private static void paysBack(int greatest, int price, int credit) {
        LoafRounds x = one(9000000, 0);
        x.set(3, greatest);
        x.set(4, price);
        x.days(1);
        String told = "9 lacking, setting 3 " + greatest + ", price " + price;
        int back = 9 - credit;
        Edges.customerOf(told, x, 0, 2, credit, 5, back);
        Edges.about(told, x, 6, credit, 7, back, 8, 9 * price, 9, back * price);
    }

    private static void paidBack() {
        sentence("A credit above setting 3 becomes as many as that; the loaves above it are paid back, "
                + "setting 4 for each.");
        paysBack(0, 1, 0);
        paysBack(0, 20, 0);
        paysBack(1, 20, 1);
        paysBack(8, 3, 8);
        paysBack(8, 20, 8);
        paysBack(9, 3, 9);
        paysBack(10, 20, 9);
        paysBack(30, 20, 9);
        LoafRounds x = one(9993400, 0);
        x.set(3, 30);
        x.days(4);
        Edges.customerOf("a credit of 30", x, 0, 2, 30, 5, 0);
        x.days(1);
        Edges.customerOf("a credit of 34", x, 0, 2, 30, 5, 4);
    }

    private static void paidBackAtTheEnd() {
        sentence("A credit above setting 3 becomes as many as that");
        LoafRounds x = owed();
        x.set(3, 3);
        x.set(2, 2);
        Edges.is("the credit ahead of the day", x.customerOf(0, 2), 5);
        x.days(1);
        Edges.customerOf("2 made good ahead of it", x, 0, 2, 3, 4, 2, 5, 0);
        LoafRounds y = owed();
        y.set(3, 3);
        y.set(2, 1);
        y.days(1);
        Edges.customerOf("1 made good ahead of it", y, 0, 2, 3, 4, 1, 5, 1);
        LoafRounds z = owed();
        z.set(3, 3);
        z.holiday(0, 1, 1);
        z.close(0, 1, true);
        z.days(1);
        Edges.customerOf("a holiday in a closed street", z, 0, 2, 3, 4, 0, 5, 2);
    }
}
