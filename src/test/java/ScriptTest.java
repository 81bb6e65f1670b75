/** Promises 28 and 29: runScript and simulate. */
public final class ScriptTest {
    public static void main(String[] args) {
        eachCommand();
        commandsFollowOneAnother();
        runScriptRefuses();
        simulatePinned();
        simulateRefuses();
        Checks.end();
    }

    private static LoafRounds book() {
        LoafRounds x = new LoafRounds();
        x.customer(0, 1234567);
        x.customer(1, 9999999);
        x.set(0, 5);
        x.days(1);
        x.holiday(1, 50, 60);
        return x;
    }

    private static void command(LoafRounds x, int command, boolean succeeds) {
        String before = Checks.lookOf(x);
        Checks.same("runScript(1, " + command + ")", x.runScript(1, command), succeeds ? -1 : 0);
        Checks.same("what can be seen behind it", Checks.lookOf(x), before);
    }

    private static void good(LoafRounds x, int... commands) {
        for (int command : commands) {
            command(x, command, true);
        }
    }

    private static void bad(LoafRounds x, int... commands) {
        for (int command : commands) {
            command(x, command, false);
        }
    }

    private static void eachCommand() {
        // Customer 1 has a credit of 5, customer 0 got 1 loaf, customer 1 got 4.
        LoafRounds x = book();
        good(x, 100001, 100060);
        bad(x, 100000, 100061, 101001, 110001, 100101);
        good(x, 200900, 216000);
        bad(x, 220000, 207000, 290900, 200910, 200901);
        good(x, 300000, 310099, 305050, 300199);
        bad(x, 320000, 300100, 305049);
        good(x, 400000, 436001);
        bad(x, 440000, 407000, 400002, 400011, 400101);
        good(x, 500000, 533000, 521000);
        bad(x, 540000, 504000, 521001, 521010, 521100);
        good(x, 600000, 600099, 610009, 620009, 630030, 640001, 640020);
        bad(x, 650001, 610010, 620010, 630031, 640000, 640021, 600101, 601001);
        good(x, 700000, 710005, 710099);
        bad(x, 710004, 720099, 710105, 711005);
        good(x, 800000, 810005);
        bad(x, 800005, 810000, 820000, 810015, 810105, 811005, 810006);
        good(x, 900000, 900005);
        bad(x, 900006, 909999, 910000);
        bad(x, 0, 1, 99999, 999999);
        x.holiday(1, 0, 0);
        x.holiday(1, 0, 0);
        bad(x, 310000);
        LoafRounds y = new LoafRounds();
        good(y, 900000);
        bad(y, 900001, 700099, 800001);
    }

    private static void commandsFollowOneAnother() {
        LoafRounds x = book();
        Checks.same("a day, then 10 loaves", x.runScript(2, 100001900010L), -1);
        Checks.same("a day, then 11 loaves", x.runScript(2, 100001900011L), 1);
        Checks.same("oven 99, a day, 17 loaves, 5 at first, 11 due, 1 made good",
                x.runScript(3, 600099100001900017L), -1);
        Checks.same("18 loaves", x.runScript(3, 600099100001900018L), 2);
        Checks.same("a first command of zeros", x.runScript(2, 100001), 0);
        Checks.same("a first command of zeros", x.runScript(3, 100001900010L), 0);
        Checks.same("the second fails", x.runScript(3, 100001100000100000L), 1);
        Checks.same("all succeed", x.runScript(3, 400101L + 100001L * 1000000 - 100 + 430001L * 1000000000000L), -1);
        Checks.same("today behind scripts", x.about(1), 1);
        Checks.same("holidays are three", x.runScript(3, 300000300000300000L), -1);
        x.holiday(0, 1, 1);
        Checks.same("holidays are three", x.runScript(3, 300000300000300000L), 2);
    }

    private static void runScriptRefuses() {
        LoafRounds x = book();
        Checks.noArgument("runScript(0, 0)", x, () -> x.runScript(0, 0));
        Checks.noArgument("runScript(4, 0)", x, () -> x.runScript(4, 0));
        Checks.noArgument("runScript(-1, 0)", x, () -> x.runScript(-1, 0));
        Checks.noArgument("runScript(1, -1)", x, () -> x.runScript(1, -1));
        Checks.noArgument("runScript(1, 1000000)", x, () -> x.runScript(1, 1000000));
        Checks.noArgument("runScript(2, 1000000000000)", x, () -> x.runScript(2, 1000000000000L));
        Checks.noArgument("runScript(3, 10^18)", x, () -> x.runScript(3, 1000000000000000000L));
        Checks.noArgument("runScript(3, Long.MAX_VALUE)", x, () -> x.runScript(3, Long.MAX_VALUE));
        Checks.noArgument("runScript(3, Long.MIN_VALUE)", x, () -> x.runScript(3, Long.MIN_VALUE));
        Checks.same("runScript(3, 10^18 - 1)", x.runScript(3, 999999999999999999L), 0);
        Checks.same("runScript(2, 10^12 - 1)", x.runScript(2, 999999999999L), 0);
    }

    /** The turns of a simulation, done by the methods on an object of its own. */
    private static int turnsByHand(LoafRounds x, long seed, int m) {
        int before = x.about(3);
        long state = seed;
        for (int turn = 0; turn < m; turn++) {
            state = state * 6364136223846793005L + 1442695040888963407L;
            int r = (int) (state >>> 33);
            try {
                turn(x, r % 8, r / 8);
            } catch (IndexOutOfBoundsException | IllegalArgumentException | IllegalStateException e) {
                // What throws is left out.
            }
        }
        return 1000 * ((x.about(3) - before) % 1000) + x.about(6);
    }

    private static void turn(LoafRounds x, int kind, int q) {
        if (kind == 0) {
            x.customer(q % 4, q / 4 % 10000000);
        } else if (kind == 1) {
            x.change(q % 10, q / 16 % 7, q / 128 % 10);
        } else if (kind == 2) {
            int d = x.about(1) + q / 16 % 20;
            x.holiday(q % 10, d, d + q / 512 % 9);
        } else if (kind == 3) {
            x.close(q % 4, q / 4 % 7, q / 32 % 3 == 0);
        } else if (kind == 4) {
            x.swap(q % 4, q / 4 % 4);
        } else if (kind == 5 && q / 128 % 2 == 0) {
            x.set(0, q % 100);
        } else if (kind == 5) {
            x.set(1 + q % 3, q / 4 % 10);
        } else {
            x.days(1 + q % 9);
        }
    }

    private static void simulatePinned() {
        long[] seeds = {0, 1, -1, 42, Long.MAX_VALUE, Long.MIN_VALUE, 123456789123456789L, -987654321};
        for (long seed : seeds) {
            for (int m = 1; m <= 60; m++) {
                LoafRounds x = book();
                String before = Checks.lookOf(x);
                int got = x.simulate(seed, m);
                Checks.same("what can be seen behind simulate", Checks.lookOf(x), before);
                Checks.same("simulate(" + seed + ", " + m + ")", got, turnsByHand(x, seed, m));
            }
        }
    }

    private static void simulateRefuses() {
        LoafRounds x = book();
        Checks.noArgument("simulate(0, 0)", x, () -> x.simulate(0, 0));
        Checks.noArgument("simulate(0, 61)", x, () -> x.simulate(0, 61));
        Checks.noArgument("simulate(0, -1)", x, () -> x.simulate(0, -1));
        x.undo();
        x.simulate(5, 60);
        Checks.same("undo() behind simulate", x.undo(), 3);
    }
}
