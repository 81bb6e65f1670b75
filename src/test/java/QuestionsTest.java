/** Promises 6 to 13: about, customerOf, ordered, away, isClosed, round, setting, due. */
public final class QuestionsTest {
    public static void main(String[] args) {
        aboutAndCustomerOf();
        nextDueDay();
        ordered();
        away();
        streetsAndSettings();
        due();
        Checks.end();
    }

    /** Two days with an oven too small, closed streets, credits made good and paid back. */
    private static LoafRounds busyBook() {
        LoafRounds x = new LoafRounds();
        x.customer(1, 3333333);
        x.customer(0, 2222222);
        x.customer(2, 9999999);
        x.close(2, 0, true);
        x.close(2, 1, true);
        x.set(0, 4);
        x.days(1);
        x.set(0, 30);
        x.days(1);
        return x;
    }

    private static void numbers(String of, int[] got, int... want) {
        for (int i = 0; i < want.length; i++) {
            Checks.same(of + " " + i, got[i], want[i]);
        }
    }

    private static void aboutAndCustomerOf() {
        LoafRounds x = busyBook();
        int[] about = new int[13];
        for (int what = 0; what <= 12; what++) {
            about[what] = x.about(what);
        }
        // Day 0: 4 baked; street 0 gets 2, street 1 2 of 3, street 2 is closed and is owed 9.
        // Day 1: 15 baked; 5 handed out, 1 makes a credit good, 9 go stale, 8 of 18 are paid back.
        numbers("about", about, 3, 2, 19, 9, 1, 9, 10, 8, 84, 24, 2, 1, 14);
        int[][] want = {
            {1, 21, 0, 5, 1, 0, 0, 1, 0, 3, 2},
            {0, 14, 0, 4, 0, 0, 0, 0, 0, 2, 2},
            {2, 63, 10, 0, 0, 8, 2, 0, 0, 9, 2},
        };
        for (int c = 0; c < 3; c++) {
            int[] numbers = new int[11];
            for (int what = 0; what <= 10; what++) {
                numbers[what] = x.customerOf(c, what);
            }
            numbers("customerOf " + c, numbers, want[c]);
        }
        x.holiday(0, 2, 2);
        Checks.same("due today in a holiday", x.customerOf(0, 9), 0);
        Checks.same("the holidays", x.customerOf(0, 8), 1);
        Checks.same("due to all today", x.about(12), 11);
        Checks.noArgument("about(-1)", x, () -> x.about(-1));
        Checks.noArgument("about(13)", x, () -> x.about(13));
        Checks.noArgument("customerOf(0, -1)", x, () -> x.customerOf(0, -1));
        Checks.noArgument("customerOf(2, 11)", x, () -> x.customerOf(2, 11));
        Checks.noPlace("customerOf(3, 0)", x, () -> x.customerOf(3, 0));
        Checks.noPlace("customerOf(-1, 0)", x, () -> x.customerOf(-1, 0));
        Checks.noPlace("customerOf(3, 11)", x, () -> x.customerOf(3, 11));
    }

    private static void nextDueDay() {
        LoafRounds x = new LoafRounds();
        x.customer(0, 100);
        Checks.same("next due day", x.customerOf(0, 10), 4);
        x.days(4);
        Checks.same("next due day is today", x.customerOf(0, 10), 4);
        x.days(1);
        Checks.same("next due day of next week", x.customerOf(0, 10), 11);
        x.holiday(0, 5, 204);
        Checks.same("next due day out of sight", x.customerOf(0, 10), -1);
        x.change(0, 2, 1);
        Checks.same("next due day 200 days later", x.customerOf(0, 10), 205);
        x.drop(0, 0);
        x.holiday(0, 5, 205);
        x.change(0, 3, 1);
        Checks.same("next due day 201 days later", x.customerOf(0, 10), -1);
        x.change(0, 3, 0);
        x.close(0, 4, true);
        x.drop(0, 0);
        x.change(0, 2, 0);
        Checks.same("what is due stays due in a closed street", x.customerOf(0, 10), 11);
    }

    private static void ordered() {
        LoafRounds x = new LoafRounds();
        x.customer(0, 9012345);
        int[] week = {9, 0, 1, 2, 3, 4, 5};
        for (int w = 0; w < 7; w++) {
            Checks.same("ordered(0, " + w + ")", x.ordered(0, w), week[w]);
        }
        Checks.noPlace("ordered(1, 0)", x, () -> x.ordered(1, 0));
        Checks.noPlace("ordered(-1, 0)", x, () -> x.ordered(-1, 0));
        Checks.noPlace("ordered(0, 7)", x, () -> x.ordered(0, 7));
        Checks.noPlace("ordered(0, -1)", x, () -> x.ordered(0, -1));
    }

    private static void away() {
        LoafRounds x = new LoafRounds();
        x.customer(0, 1);
        x.holiday(0, 5, 8);
        x.holiday(0, 0, 999);
        Checks.same("away(0, 0, 0)", x.away(0, 0, 0), 5);
        Checks.same("away(0, 0, 1)", x.away(0, 0, 1), 8);
        Checks.same("away(0, 1, 0)", x.away(0, 1, 0), 0);
        Checks.same("away(0, 1, 1)", x.away(0, 1, 1), 999);
        Checks.same("away(0, 2, 0)", x.away(0, 2, 0), -1);
        Checks.same("away(0, 2, 1)", x.away(0, 2, 1), -1);
        Checks.noPlace("away(1, 0, 0)", x, () -> x.away(1, 0, 0));
        Checks.noPlace("away(-1, 0, 0)", x, () -> x.away(-1, 0, 0));
        Checks.noPlace("away(0, 3, 0)", x, () -> x.away(0, 3, 0));
        Checks.noPlace("away(0, -1, 0)", x, () -> x.away(0, -1, 0));
        Checks.noPlace("away(0, 3, 2)", x, () -> x.away(0, 3, 2));
        Checks.noArgument("away(0, 0, 2)", x, () -> x.away(0, 0, 2));
        Checks.noArgument("away(0, 2, -1)", x, () -> x.away(0, 2, -1));
    }

    private static void streetsAndSettings() {
        LoafRounds x = new LoafRounds();
        x.close(3, 6, true);
        Checks.same("isClosed(3, 6)", x.isClosed(3, 6), 1);
        Checks.same("isClosed(3, 5)", x.isClosed(3, 5), 0);
        Checks.same("isClosed(2, 6)", x.isClosed(2, 6), 0);
        Checks.noPlace("isClosed(4, 0)", x, () -> x.isClosed(4, 0));
        Checks.noPlace("isClosed(-1, 0)", x, () -> x.isClosed(-1, 0));
        Checks.noPlace("isClosed(0, 7)", x, () -> x.isClosed(0, 7));
        Checks.noPlace("isClosed(0, -1)", x, () -> x.isClosed(0, -1));
        x.swap(0, 3);
        Checks.same("round(0)", x.round(0), 3);
        Checks.same("round(1)", x.round(1), 1);
        Checks.same("round(3)", x.round(3), 0);
        Checks.noPlace("round(4)", x, () -> x.round(4));
        Checks.noPlace("round(-1)", x, () -> x.round(-1));
        x.set(3, 29);
        Checks.same("setting(3)", x.setting(3), 29);
        Checks.noArgument("setting(5)", x, () -> x.setting(5));
        Checks.noArgument("setting(-1)", x, () -> x.setting(-1));
    }

    private static void due(LoafRounds x, int from, int days, int want) {
        Checks.same("due(0, " + from + ", " + days + ", 0)", x.due(0, from, days, 0), want);
        Checks.same("due(0, " + from + ", " + days + ", 1)", x.due(0, from, days, 1), want);
    }

    private static void due() {
        LoafRounds x = new LoafRounds();
        x.customer(0, 1234567);
        due(x, 0, 0, 0);
        due(x, 999, 0, 0);
        due(x, 0, 7, 28);
        due(x, 3, 7, 28);
        due(x, 5, 3, 14);
        due(x, 999, 1, 6);
        due(x, 0, 500, 28 * 71 + 6);
        due(x, 999, 500, 28 * 71 + 6 + 7 + 1);
        x.holiday(0, 5, 7);
        x.holiday(0, 6, 8);
        x.holiday(0, 6, 6);
        due(x, 0, 14, 56 - 6 - 7 - 1 - 2);
        due(x, 6, 1, 0);
        due(x, 8, 2, 3);
        due(x, 7, 3, 3);
        due(x, 4, 2, 5);
        x.drop(0, 2);
        x.holiday(0, 990, 999);
        due(x, 990, 20, 7 + 28 + 1 + 2);
        Checks.same("due has nothing to do with today", x.days(20) + x.due(0, 0, 7, 0), 61 + 15);
        Checks.noPlace("due(1, 0, 1, 0)", x, () -> x.due(1, 0, 1, 0));
        Checks.noPlace("due(-1, -1, 1, 0)", x, () -> x.due(-1, -1, 1, 0));
        Checks.noArgument("due(0, -1, 1, 0)", x, () -> x.due(0, -1, 1, 0));
        Checks.noArgument("due(0, 1000, 1, 0)", x, () -> x.due(0, 1000, 1, 0));
        Checks.noArgument("due(0, 0, -1, 0)", x, () -> x.due(0, 0, -1, 0));
        Checks.noArgument("due(0, 0, 501, 1)", x, () -> x.due(0, 0, 501, 1));
        Checks.noArgument("due(0, 0, 1, 2)", x, () -> x.due(0, 0, 1, 2));
        Checks.noArgument("due(0, 0, 1, -1)", x, () -> x.due(0, 0, 1, -1));
    }
}
