import java.util.ArrayList;
import java.util.List;

/** The boundary cases of promises 23 to 27: why, creditIn, clearIn, leastOven, bestRound. */
final class EdgesOfForecasts {
    private EdgesOfForecasts() {
    }

    static void run() {
        why();
        whyIsTheFirst();
        whyOfTheLastLoaves();
        whyRefuses();
        creditIn();
        creditInRefuses();
        clearIn();
        clearInTo200();
        leastOven();
        leastOvenOfDays();
        bestRound();
        bestRoundOfDays();
        bestOfAllRounds();
        nothingChanges();
    }

    /** Customers in street 0, nothing to spare, this oven. */
    private static LoafRounds with(int oven, int... weeks) {
        LoafRounds x = new LoafRounds();
        for (int week : weeks) {
            x.customer(0, week);
        }
        x.set(1, 0);
        x.set(0, oven);
        return x;
    }

    private static void why() {
        Edges.sentence(23, "Tells why a customer will not get today what is ordered, in full.");
        Edges.sentence(23, "Returns the reason; 0 if it will be got.");
        for (int day = 0; day < 14; day++) {
            LoafRounds x = with(30, 10, 100);
            x.holiday(1, 4, 5);
            x.close(0, 4, true);
            x.close(0, 5, true);
            for (int i = 0; i < day; i++) {
                x.days(1);
            }
            Edges.is("why(0) on day " + day, x.why(0), day % 7 == 5 ? 3 : 1);
            Edges.is("why(1) on day " + day, x.why(1), day == 4 ? 2 : day == 11 ? 3 : 1);
            x.close(0, 4, false);
            x.close(0, 5, false);
            Edges.is("why(0) of an open street on day " + day, x.why(0), day % 7 == 5 ? 0 : 1);
        }
    }

    /** The reasons that are so, as a set of bits; the answer is the least of them. */
    private static void whyOf(int reasons) {
        LoafRounds x = with(9, 9000000, 9000000);
        if ((reasons & 2) != 0) {
            x.change(1, 0, 0);
        }
        if ((reasons & 4) != 0) {
            x.holiday(1, 0, 0);
        }
        if ((reasons & 8) != 0) {
            x.close(0, 0, true);
        }
        if ((reasons & 16) == 0) {
            x.set(0, (reasons & 32) == 0 ? 18 : 17);
        }
        int want = reasons == 0 ? 0 : Integer.numberOfTrailingZeros(reasons);
        Edges.is("why of the reasons " + Integer.toBinaryString(reasons), x.why(1), want);
    }

    private static void whyIsTheFirst() {
        Edges.sentence(Document.BEFORE, "Why a customer will not get today what is ordered, in full, "
                + "is the first of these that is so: 1: nothing is ordered for today's weekday; "
                + "2: the day is in a holiday; 3: the street is closed; "
                + "4: no loaf is left for the customer in today's round; 5: not enough are.");
        for (int reasons = 0; reasons < 64; reasons += 2) {
            whyOf(reasons);
        }
    }

    private static void whyOfTheLastLoaves() {
        Edges.sentence(Document.BEFORE, "4: no loaf is left for the customer in today's round; 5: not enough are.");
        int[] first = {4, 5, 5, 0, 0, 0, 0, 0, 0};
        int[] second = {4, 4, 4, 4, 5, 5, 5, 0, 0};
        for (int oven = 0; oven <= 8; oven++) {
            LoafRounds x = with(oven, 3000000, 4000000);
            Edges.is("why(0) of oven " + oven, x.why(0), first[oven]);
            Edges.is("why(1) of oven " + oven, x.why(1), second[oven]);
        }
        LoafRounds x = with(3, 3000000, 4000000);
        x.holiday(0, 0, 0);
        Edges.is("why behind one who is away, 3 baked", x.why(1), 5);
        x.set(0, 4);
        Edges.is("why behind one who is away, 4 baked", x.why(1), 0);
        LoafRounds y = with(4, 3000000);
        y.customer(1, 4000000);
        y.close(0, 0, true);
        Edges.is("why behind a closed street", y.why(1), 0);
        y.close(0, 0, false);
        Edges.is("why behind an open street", y.why(1), 5);
        y.swap(0, 1);
        Edges.is("why ahead of it", y.why(1), 0);
        Edges.is("why behind it", y.why(0), 4);
        // A credit is made good behind all that is due, so it takes no loaf ahead.
        LoafRounds z = with(0, 9000000, 100000);
        z.days(1);
        z.set(0, 1);
        Edges.is("why behind one with a credit", z.why(1), 0);
        Edges.is("why of a credit with nothing ordered", z.why(0), 1);
    }

    private static void whyRefuses() {
        Edges.sentence(23, "- `c`: customer");
        Edges.sentence(23, "Throws `IndexOutOfBoundsException` if there is no such customer");
        Edges.range(Edges.PLACE, Edges.BUSY, "why(#)", 0, 3, LoafRounds::why);
        Edges.range(Edges.PLACE, Edges.FULL, "why(#)", 0, 9, LoafRounds::why);
        Edges.refused(Edges.PLACE, Edges.NEW, "why(0)", x -> x.why(0));
    }

    private static void creditIn() {
        Edges.sentence(24, "Tells what a credit will be.");
        Edges.sentence(24, "Returns the credit behind n days.");
        LoafRounds ahead = Edges.BUSY.get();
        LoafRounds done = Edges.BUSY.get();
        for (int n = 0; n <= 60; n++) {
            for (int c = 0; c < 4; c++) {
                Edges.is("creditIn(" + c + ", " + n + ")", ahead.creditIn(c, n), done.customerOf(c, 2));
            }
            done.days(1);
        }
        Edges.sentence(24, "- `n`: 0 to 200");
        LoafRounds x = with(0, 9000000);
        x.set(3, 30);
        Edges.is("creditIn(0, 0)", x.creditIn(0, 0), 0);
        Edges.is("creditIn(0, 1)", x.creditIn(0, 1), 9);
        x.holiday(0, 0, 198);
        x.change(0, 3, 7);
        // Day 199 is a weekday 3.
        Edges.is("creditIn(0, 199)", x.creditIn(0, 199), 0);
        Edges.is("creditIn(0, 200)", x.creditIn(0, 200), 7);
        x.days(1);
        Edges.is("creditIn(0, 198) of the next day", x.creditIn(0, 198), 0);
        Edges.is("creditIn(0, 199) of the next day", x.creditIn(0, 199), 7);
    }

    private static void creditInRefuses() {
        Edges.sentence(24, "- `c`: customer");
        Edges.sentence(24, "Throws `IndexOutOfBoundsException` if there is no such customer");
        Edges.range(Edges.PLACE, Edges.BUSY, "creditIn(#, 0)", 0, 3, (x, c) -> x.creditIn(c, 0));
        Edges.range(Edges.PLACE, Edges.FULL, "creditIn(#, 200)", 0, 9, (x, c) -> x.creditIn(c, 200));
        for (int n : new int[] {-1, 0, 200, 201}) {
            Edges.refused(Edges.PLACE, Edges.NEW, "creditIn(0, " + n + ")", x -> x.creditIn(0, n));
            Edges.refused(Edges.PLACE, Edges.BUSY, "creditIn(4, " + n + ")", x -> x.creditIn(4, n));
            Edges.refused(Edges.PLACE, Edges.BUSY, "creditIn(-1, " + n + ")", x -> x.creditIn(-1, n));
        }
        Edges.sentence(24, "Throws `IllegalArgumentException` if n is out of range");
        Edges.range(Edges.ARGUMENT, Edges.BUSY, "creditIn(0, #)", 0, 200, (x, n) -> x.creditIn(0, n));
        Edges.range(Edges.ARGUMENT, Edges.FULL, "creditIn(9, #)", 0, 200, (x, n) -> x.creditIn(9, n));
    }

    /** A credit of 9, and nothing due later. */
    private static LoafRounds owed() {
        LoafRounds x = with(0, 9000000);
        x.days(1);
        x.change(0, 0, 0);
        x.set(0, 99);
        x.set(1, 9);
        return x;
    }

    private static void clearIn() {
        Edges.sentence(25, "Tells when a credit is made good.");
        Edges.sentence(25, "Returns behind how many days, up to 200, the credit is 0, 0 if it is now; "
                + "NONE if it is not by then.");
        Edges.is("clearIn of no credit", with(0, 9999999).clearIn(0), 0);
        int[] want = {-1, 9, 5, 3, 3, 2, 2, 2, 2, 1};
        for (int greatest = 0; greatest <= 9; greatest++) {
            LoafRounds x = owed();
            x.set(2, greatest);
            Edges.is("clearIn with setting 2 " + greatest, x.clearIn(0), want[greatest]);
            LoafRounds y = owed();
            y.set(2, 9);
            y.set(1, greatest);
            Edges.is("clearIn with setting 1 " + greatest, y.clearIn(0), want[greatest]);
        }
        LoafRounds x = owed();
        x.set(0, 0);
        x.set(3, 0);
        Edges.is("clearIn of a credit that is paid back", x.clearIn(0), 1);
        LoafRounds y = with(5, 9000000);
        y.days(1);
        y.set(1, 9);
        y.set(2, 1);
        Edges.is("clearIn of 4, 1 a day", y.clearIn(0), 4);
        // On day 4, as 1 is left to make good, 4 more are lacking.
        y.change(0, 4, 9);
        Edges.is("clearIn of 4, 1 a day, and 4 more on day 4", y.clearIn(0), -1);
    }

    private static void clearInTo200() {
        Edges.sentence(25, "up to 200");
        int[][] lastDayAndWant = {{1, 2}, {2, 3}, {198, 199}, {199, 200}, {200, -1}, {201, -1}, {999, -1}};
        for (int[] of : lastDayAndWant) {
            LoafRounds x = owed();
            x.set(2, 9);
            // Today is day 1, so that the day behind the holiday is the answer's last one.
            x.holiday(0, 1, of[0]);
            Edges.is("clearIn, away up to day " + of[0], x.clearIn(0), of[1]);
        }
        LoafRounds z = owed();
        z.set(2, 9);
        z.holiday(0, 1, 200);
        z.days(1);
        Edges.is("clearIn of the next day", z.clearIn(0), 200);
        Edges.sentence(25, "- `c`: customer");
        Edges.sentence(25, "Throws `IndexOutOfBoundsException` if there is no such customer");
        Edges.range(Edges.PLACE, Edges.BUSY, "clearIn(#)", 0, 3, LoafRounds::clearIn);
        Edges.range(Edges.PLACE, Edges.FULL, "clearIn(#)", 0, 9, LoafRounds::clearIn);
        Edges.refused(Edges.PLACE, Edges.NEW, "clearIn(0)", x -> x.clearIn(0));
    }

    private static void leastOven() {
        Edges.sentence(26, "Finds the least oven.");
        Edges.sentence(26, "Returns the least setting 0, 0 to 99, with which no drop would be missed or short "
                + "in n days, but in streets that are closed (there is always one).");
        Edges.is("leastOven(60) without customers", new LoafRounds().leastOven(60), 0);
        Edges.is("leastOven(60) of nothing ordered", with(30, 0, 0).leastOven(60), 0);
        Edges.is("leastOven(60) of one loaf", with(0, 1).leastOven(60), 1);
        LoafRounds x = new LoafRounds();
        for (int c = 0; c < 10; c++) {
            x.customer(c % 4, 9999999);
        }
        for (int spare = 0; spare <= 9; spare += 9) {
            x.set(1, spare);
            for (int oven = 0; oven <= 99; oven += 33) {
                x.set(0, oven);
                Edges.is("leastOven(60) of 90, spare " + spare + ", oven " + oven, x.leastOven(60), 90);
            }
        }
        for (int s = 0; s < 4; s++) {
            for (int w = 0; w < 7; w++) {
                x.close(s, w, true);
            }
        }
        Edges.is("leastOven(60) of streets that are closed", x.leastOven(60), 0);
        x.close(3, 6, false);
        Edges.is("leastOven(60) of one that is open once", x.leastOven(60), 18);
        Edges.is("leastOven(6) ahead of that", x.leastOven(6), 0);
        Edges.is("leastOven(7) with that", x.leastOven(7), 18);
        LoafRounds y = with(0, 9000000);
        y.days(1);
        y.change(0, 0, 0);
        Edges.is("leastOven(60) of a credit alone", y.leastOven(60), 0);
    }

    private static void leastOvenOfDays() {
        Edges.sentence(26, "Returns the least setting 0, 0 to 99, with which no drop would be missed or short "
                + "in n days");
        LoafRounds x = with(0, 1234567, 1000000);
        x.holiday(1, 0, 6);
        int[] want = {1, 2, 3, 4, 5, 6, 7, 7};
        for (int n = 1; n <= want.length; n++) {
            Edges.is("leastOven(" + n + ")", x.leastOven(n), want[n - 1]);
        }
        LoafRounds y = with(0, 1000000);
        y.change(0, 3, 5);
        y.holiday(0, 0, 58);
        // Day 59 is a weekday 3.
        Edges.is("leastOven(59)", y.leastOven(59), 0);
        Edges.is("leastOven(60)", y.leastOven(60), 5);
        y.days(1);
        Edges.is("leastOven(58) from day 1 on", y.leastOven(58), 0);
        Edges.is("leastOven(59) from day 1 on", y.leastOven(59), 5);
        Edges.sentence(26, "- `n`: 1 to 60");
        Edges.sentence(26, "Throws `IllegalArgumentException` if n is out of range");
        Edges.range(Edges.ARGUMENT, Edges.NEW, "leastOven(#)", 1, 60, LoafRounds::leastOven);
        Edges.range(Edges.ARGUMENT, Edges.BUSY, "leastOven(#)", 1, 60, LoafRounds::leastOven);
    }

    private static void bestRound() {
        Edges.sentence(27, "Finds the best round.");
        Edges.sentence(27, "of several the least number");
        LoafRounds x = new LoafRounds();
        Edges.is("bestRound(1) of no customers", x.bestRound(1), 123);
        x.swap(0, 3);
        x.swap(1, 2);
        Edges.is("bestRound(30) of no customers", x.bestRound(30), 123);
        x.customer(3, 9999999);
        x.set(0, 0);
        Edges.is("bestRound(30) of one customer", x.bestRound(30), 123);
        x.customer(0, 9999999);
        x.set(0, 99);
        Edges.is("bestRound(30) of enough for all", x.bestRound(30), 123);
    }

    /** 5 loaves for 10 that are due on day 30 alone; what street 0 lacks then is more than the greatest credit. */
    private static LoafRounds lateChoice() {
        LoafRounds x = with(0, 5000000);
        x.set(3, 5);
        x.days(1);
        x.customer(1, 0);
        x.set(0, 5);
        x.set(2, 0);
        for (int c = 0; c < 2; c++) {
            x.change(c, 0, 0);
            x.change(c, 2, 5);
            x.holiday(c, 0, 29);
        }
        return x;
    }

    private static void bestRoundOfDays() {
        Edges.sentence(27, "Returns of all orders of the four streets the one with which the credits of all "
                + "customers together would be least behind n days");
        LoafRounds x = lateChoice();
        Edges.is("bestRound(29) from day 1 on", x.bestRound(29), 123);
        Edges.is("bestRound(30) from day 1 on", x.bestRound(30), 1023);
        x.days(29);
        Edges.is("bestRound(1) of day 30", x.bestRound(1), 1023);
        x.change(0, 3, 5);
        x.change(1, 3, 5);
        x.days(1);
        Edges.is("bestRound(1) of both credits full", x.bestRound(1), 123);
        Edges.sentence(27, "- `n`: 1 to 30");
        Edges.sentence(27, "Throws `IllegalArgumentException` if n is out of range");
        Edges.range(Edges.ARGUMENT, Edges.NEW, "bestRound(#)", 1, 30, LoafRounds::bestRound);
        Edges.range(Edges.ARGUMENT, Edges.BUSY, "bestRound(#)", 1, 30, LoafRounds::bestRound);
    }

    /**
     * On weekdays 0, 2 and 4 5 loaves for 10 that are due in two streets; the street that must come first is
     * closed from the next day on, and what the other one lacks is made good then.
     */
    private static LoafRounds chain(int[] streets) {
        LoafRounds x = new LoafRounds();
        int[] weeks = {5000000, 5050000, 50500, 500};
        int[] closedFrom = {1, 3, 5, 7};
        for (int i = 0; i < 4; i++) {
            x.customer(streets[i], weeks[i]);
            for (int w = closedFrom[i]; w < 7; w++) {
                x.close(streets[i], w, true);
            }
        }
        x.set(0, 5);
        x.set(1, 9);
        x.set(2, 5);
        return x;
    }

    private static List<int[]> orders() {
        List<int[]> orders = new ArrayList<>();
        for (int number = 0; number <= 3210; number++) {
            int[] digits = {number / 1000, number / 100 % 10, number / 10 % 10, number % 10};
            int told = 0;
            for (int digit : digits) {
                told |= 1 << digit;
            }
            if (told == 15) {
                orders.add(digits);
            }
        }
        return orders;
    }

    private static int placeOf(int street, int[] order) {
        int place = 0;
        while (order[place] != street) {
            place++;
        }
        return place;
    }

    /** The least order in which the first streets of the chain follow one another. */
    private static int leastOrder(int[] chain, int linked) {
        for (int[] order : orders()) {
            boolean fits = true;
            for (int i = 0; i + 1 < linked; i++) {
                fits &= placeOf(chain[i], order) < placeOf(chain[i + 1], order);
            }
            if (fits) {
                return order[0] * 1000 + order[1] * 100 + order[2] * 10 + order[3];
            }
        }
        return -1;
    }

    private static void bestOfAllRounds() {
        Edges.sentence(27, "told as a number of four digits, the highest one for the first street; "
                + "of several the least number");
        Edges.is("all orders", orders().size(), 24);
        for (int[] streets : orders()) {
            int number = leastOrder(streets, 4);
            LoafRounds x = chain(streets);
            Edges.is("bestRound(1) of " + number, x.bestRound(1), 123);
            Edges.is("bestRound(2) of " + number, x.bestRound(2), leastOrder(streets, 2));
            Edges.is("bestRound(4) of " + number, x.bestRound(4), leastOrder(streets, 3));
            Edges.is("bestRound(6) of " + number, x.bestRound(6), number);
            Edges.is("round(0) behind bestRound", x.round(0), 0);
        }
    }

    private static void nothingChanges() {
        Edges.sentence(Document.BEFORE, "what would be, if nothing else is done; these and all following methods "
                + "up to the save slots change nothing.");
        for (int c = 0; c < 4; c++) {
            int customer = c;
            Edges.changesNothing(Edges.BUSY, "why(" + c + ")", x -> x.why(customer));
            Edges.changesNothing(Edges.BUSY, "creditIn(" + c + ", 200)", x -> x.creditIn(customer, 200));
            Edges.changesNothing(Edges.BUSY, "clearIn(" + c + ")", x -> x.clearIn(customer));
        }
        Edges.changesNothing(Edges.FULL, "why(9)", x -> x.why(9));
        Edges.changesNothing(Edges.FULL, "creditIn(9, 200)", x -> x.creditIn(9, 200));
        Edges.changesNothing(Edges.FULL, "clearIn(9)", x -> x.clearIn(9));
        Edges.changesNothing(Edges.BUSY, "leastOven(60)", x -> x.leastOven(60));
        Edges.changesNothing(Edges.FULL, "leastOven(60)", x -> x.leastOven(60));
        Edges.changesNothing(Edges.BUSY, "bestRound(30)", x -> x.bestRound(30));
        Edges.changesNothing(Edges.FULL, "bestRound(30)", x -> x.bestRound(30));
        Edges.changesNothing(Edges.BUSY, "runScript", x -> x.runScript(3, 100060600000500301L));
        Edges.changesNothing(Edges.FULL, "runScript", x -> x.runScript(3, 500301600000100060L));
        Edges.changesNothing(Edges.BUSY, "simulate", x -> x.simulate(7, 60));
        Edges.changesNothing(Edges.FULL, "simulate", x -> x.simulate(-7, 60));
    }
}
