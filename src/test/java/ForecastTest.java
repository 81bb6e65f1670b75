/** Promises 23 to 27: why, creditIn, clearIn, leastOven, bestRound. */
public final class ForecastTest {
    public static void main(String[] args) {
        why();
        creditIn();
        clearIn();
        leastOven();
        bestRound();
        Checks.end();
    }

    private static void why() {
        LoafRounds x = new LoafRounds();
        x.customer(0, 5000000);
        x.customer(1, 5000000);
        x.customer(2, 5000000);
        x.set(0, 8);
        Checks.same("why of enough", x.why(0), 0);
        Checks.same("why of not enough", x.why(1), 5);
        Checks.same("why of none", x.why(2), 4);
        x.set(0, 10);
        Checks.same("why of just enough", x.why(1), 0);
        Checks.same("why of none left", x.why(2), 4);
        x.set(0, 99);
        Checks.same("why of all", x.why(2), 0);
        x.set(0, 7);
        x.swap(0, 2);
        Checks.same("why of the first street", x.why(2), 0);
        Checks.same("why of the second street", x.why(1), 5);
        Checks.same("why of the third street", x.why(0), 4);
        x.close(2, 0, true);
        Checks.same("why of a closed street", x.why(2), 3);
        Checks.same("a closed street takes none", x.why(1), 0);
        Checks.same("a closed street takes none", x.why(0), 5);
        x.holiday(2, 0, 0);
        Checks.same("why of a holiday in a closed street", x.why(2), 2);
        x.change(2, 0, 0);
        Checks.same("why of nothing ordered in a holiday", x.why(2), 1);
        x.set(0, 0);
        Checks.same("why with nothing baked", x.why(1), 4);
        x.days(1);
        Checks.same("why on the next day", x.why(1), 1);
        Checks.noPlace("why(3)", x, () -> x.why(3));
        Checks.noPlace("why(-1)", x, () -> x.why(-1));
        LoafRounds y = new LoafRounds();
        y.customer(0, 3000000);
        y.customer(0, 2000000);
        y.set(1, 0);
        y.set(0, 4);
        Checks.same("why of the first in a street", y.why(0), 0);
        Checks.same("why of the second in a street", y.why(1), 5);
    }

    private static void creditIn() {
        LoafRounds x = new LoafRounds();
        x.customer(0, 9000000);
        x.customer(1, 9000000);
        x.set(0, 10);
        // Customer 1 lacks 8, gets 1 a day for 6 days, and lacks 8 of 9 once more; 10 is the greatest credit.
        int[] want = {0, 8, 7, 6, 5, 4, 3, 2, 10, 9};
        for (int n = 0; n < want.length; n++) {
            Checks.same("creditIn(1, " + n + ")", x.creditIn(1, n), want[n]);
        }
        Checks.same("creditIn(0, 200)", x.creditIn(0, 200), 0);
        Checks.same("creditIn(1, 196)", x.creditIn(1, 196), 4);
        Checks.same("creditIn(1, 197)", x.creditIn(1, 197), 10);
        Checks.same("creditIn(1, 200)", x.creditIn(1, 200), 7);
        Checks.same("today behind creditIn", x.about(1), 0);
        Checks.same("creditIn(1, 0) behind it", x.creditIn(1, 0), 0);
        Checks.noPlace("creditIn(2, 0)", x, () -> x.creditIn(2, 0));
        Checks.noPlace("creditIn(-1, 201)", x, () -> x.creditIn(-1, 201));
        Checks.noArgument("creditIn(0, 201)", x, () -> x.creditIn(0, 201));
        Checks.noArgument("creditIn(0, -1)", x, () -> x.creditIn(0, -1));
        Checks.same("undo() behind creditIn", x.undo(), 2);
    }

    private static void clearIn() {
        LoafRounds x = new LoafRounds();
        x.customer(0, 0);
        x.customer(0, 9000000);
        Checks.same("clearIn of no credit", x.clearIn(0), 0);
        x.set(0, 0);
        x.days(1);
        Checks.same("clearIn with nothing baked", x.clearIn(1), -1);
        x.set(0, 99);
        Checks.same("clearIn", x.clearIn(1), 9);
        x.set(2, 9);
        x.set(1, 5);
        Checks.same("clearIn with more to spare", x.clearIn(1), 2);
        x.holiday(1, 1, 199);
        Checks.same("clearIn 201 days ahead", x.clearIn(1), -1);
        x.drop(1, 0);
        x.holiday(1, 1, 198);
        Checks.same("clearIn 200 days ahead", x.clearIn(1), 200);
        Checks.same("credit behind clearIn", x.customerOf(1, 2), 9);
        Checks.noPlace("clearIn(2)", x, () -> x.clearIn(2));
        Checks.noPlace("clearIn(-1)", x, () -> x.clearIn(-1));
    }

    private static void leastOven() {
        LoafRounds x = new LoafRounds();
        Checks.same("leastOven(1) without customers", x.leastOven(1), 0);
        x.customer(0, 1234567);
        x.customer(1, 2000000);
        Checks.same("leastOven(1)", x.leastOven(1), 3);
        Checks.same("leastOven(3)", x.leastOven(3), 3);
        Checks.same("leastOven(4)", x.leastOven(4), 4);
        Checks.same("leastOven(60)", x.leastOven(60), 7);
        x.close(0, 6, true);
        Checks.same("leastOven(60) with a closed street", x.leastOven(60), 6);
        x.holiday(0, 0, 58);
        Checks.same("leastOven(59) with a holiday", x.leastOven(59), 2);
        Checks.same("leastOven(60) with a holiday", x.leastOven(60), 4);
        x.close(1, 0, true);
        Checks.same("leastOven(59) with nothing due", x.leastOven(59), 0);
        for (int i = 0; i < 8; i++) {
            x.customer(2, 9000000);
        }
        Checks.same("leastOven(1) of 72", x.leastOven(1), 72);
        x.days(1);
        Checks.same("leastOven(6) from the next day on", x.leastOven(6), 0);
        Checks.same("leastOven(7) from the next day on", x.leastOven(7), 72);
        Checks.same("setting(0) behind leastOven", x.setting(0), 30);
        Checks.noArgument("leastOven(0)", x, () -> x.leastOven(0));
        Checks.noArgument("leastOven(61)", x, () -> x.leastOven(61));
    }

    private static void bestRound() {
        LoafRounds x = new LoafRounds();
        Checks.same("bestRound(1) without customers", x.bestRound(1), 123);
        x.swap(0, 3);
        Checks.same("bestRound(30) without customers", x.bestRound(30), 123);
        x.customer(0, 5000000);
        x.customer(1, 5000000);
        x.set(0, 5);
        for (int w = 1; w < 7; w++) {
            x.close(1, w, true);
        }
        // What street 1 lacks is never made good: it must come before street 0.
        Checks.same("bestRound(1) of all the same", x.bestRound(1), 123);
        Checks.same("bestRound(2)", x.bestRound(2), 1023);
        Checks.same("bestRound(30)", x.bestRound(30), 1023);
        Checks.same("round(0) behind bestRound", x.round(0), 3);
        Checks.noArgument("bestRound(0)", x, () -> x.bestRound(0));
        Checks.noArgument("bestRound(31)", x, () -> x.bestRound(31));
        LoafRounds y = new LoafRounds();
        y.customer(3, 5000000);
        y.customer(2, 5000000);
        y.set(0, 5);
        for (int w = 1; w < 7; w++) {
            y.close(3, w, true);
        }
        Checks.same("bestRound(2) with 3 before 2", y.bestRound(2), 132);
    }
}
