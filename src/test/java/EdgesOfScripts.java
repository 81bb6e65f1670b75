/** The boundary cases of promises 28 and 29: runScript and simulate. */
final class EdgesOfScripts {
    private static final int CALLS = 500;
    private static final long FACTOR = 6364136223846793005L;
    private static final long SUMMAND = 1442695040888963407L;

    private EdgesOfScripts() {
    }

    static void run() {
        numbersOfScripts();
        allGroups();
        groupsAtTheEdges();
        commandsAreDone();
        firstThatFails();
        simulateRefuses();
        eachTurn();
        turnsThatAreLeftOut();
        numbersOfTurns();
        copiesAreNew();
        moduloThousand();
        seeds();
    }

    /** Three customers, with credits of 0, 15 and 14; the first is away today and has three holidays. */
    private static LoafRounds book() {
        LoafRounds x = new LoafRounds();
        x.customer(0, 9999999);
        x.customer(1, 9999999);
        x.customer(2, 9899999);
        x.set(0, 12);
        x.set(3, 30);
        x.close(1, 1, true);
        x.days(2);
        x.holiday(0, 1, 1);
        x.holiday(0, 2, 2);
        x.holiday(0, 3, 3);
        x.set(0, 10);
        return x;
    }

    // ---- runScript

    private static void numbersOfScripts() {
        Edges.sentence(28, "- `n`: number of commands, 1 to 3");
        Edges.range(Edges.ARGUMENT, Edges.NEW, "runScript(#, 0)", 1, 3, (x, n) -> x.runScript(n, 0));
        Edges.range(Edges.ARGUMENT, Edges.BUSY, "runScript(#, 100001)", 1, 3, (x, n) -> x.runScript(n, 100001));
        Edges.sentence(28, "- `script`: the commands, a number of at most 6 * n digits (0 or more)");
        Edges.sentence(28, "Throws `IllegalArgumentException` if n is out of range, or if script is negative "
                + "or has more than 6 * n digits");
        long digits = 1;
        for (int n = 1; n <= 3; n++) {
            int commands = n;
            digits *= 1000000;
            long least = digits;
            Edges.allowed(Edges.BUSY, "runScript(" + n + ", 0)", x -> x.runScript(commands, 0));
            Edges.allowed(Edges.BUSY, "runScript(" + n + ", " + (digits - 1) + ")",
                    x -> x.runScript(commands, least - 1));
            for (long script : new long[] {-1, -least, digits, digits * 9, Long.MAX_VALUE, Long.MIN_VALUE}) {
                Edges.refused(Edges.ARGUMENT, Edges.BUSY, "runScript(" + n + ", " + script + ")",
                        x -> x.runScript(commands, script));
            }
            Edges.is("runScript(" + n + ", 0)", book().runScript(n, 0), 0);
            Edges.is("runScript(" + n + ", " + (digits - 1) + ")", book().runScript(n, digits - 1), 0);
        }
        Edges.refused(Edges.ARGUMENT, Edges.BUSY, "runScript(0, -1)", x -> x.runScript(0, -1));
        Edges.refused(Edges.ARGUMENT, Edges.BUSY, "runScript(4, 10^18)", x -> x.runScript(4, 1000000000000000000L));
    }

    /** What the document says of a group on book(), digit by digit. */
    private static boolean succeeds(int[] d, int[] whys) {
        int lastTwo = d[5] * 10 + d[6];
        int middle = d[3] * 10 + d[4];
        switch (d[1]) {
            case 1:
                return d[2] == 0 && middle == 0 && lastTwo >= 1 && lastTwo <= 60;
            case 2:
                return d[2] < 3 && d[3] < 7 && lastTwo == 0;
            case 3:
                return d[2] > 0 && d[2] < 3 && middle <= lastTwo;
            case 4:
                return d[2] < 4 && d[3] < 7 && d[4] == 0 && d[5] == 0 && d[6] <= 1;
            case 5:
                return d[2] < 4 && d[3] < 4 && d[4] == 0 && lastTwo == 0;
            case 6:
                int[] least = {0, 0, 0, 0, 1};
                int[] greatest = {99, 9, 9, 30, 20};
                return d[2] < 5 && middle == 0 && lastTwo >= least[d[2]] && lastTwo <= greatest[d[2]];
            case 7:
                int[] credits = {0, 15, 14};
                return d[2] < 3 && middle == 0 && lastTwo >= credits[d[2]];
            case 8:
                return d[2] < 3 && middle == 0 && d[5] == 0 && d[6] == whys[d[2]];
            case 9:
                return d[2] == 0 && middle * 100 + lastTwo <= 24;
            default:
                return false;
        }
    }

    private static void allGroups() {
        Edges.sentence(28, "commands with customers, streets or weekdays that do not exist fail, "
                + "and so does any other group (also one with another digit where a 0 is written, or a b above 1)");
        LoafRounds x = book();
        int[] whys = {2, 0, 5};
        int[] d = new int[7];
        for (int group = 0; group < 1000000; group++) {
            int rest = group;
            for (int i = 6; i >= 1; i--) {
                d[i] = rest % 10;
                rest /= 10;
            }
            if (group % CALLS == 0) {
                x = book();
            }
            Edges.is("runScript(1, " + group + ")", x.runScript(1, group), succeeds(d, whys) ? -1 : 0);
        }
    }

    private static void good(LoafRounds x, long... commands) {
        for (long command : commands) {
            Edges.is("runScript(1, " + command + ")", x.runScript(1, command), -1);
        }
    }

    private static void bad(LoafRounds x, long... commands) {
        for (long command : commands) {
            Edges.is("runScript(1, " + command + ")", x.runScript(1, command), 0);
        }
    }

    private static void groupsAtTheEdges() {
        LoafRounds x = book();
        Edges.sentence(28, "1 0 0 0 n n: days(nn).");
        good(x, 100001, 100060);
        bad(x, 100000, 100061, 100099, 100101, 101001, 110001);
        Edges.sentence(28, "2 c w n 0 0: change(c, w, n).");
        good(x, 200000, 226900);
        bad(x, 230000, 207000, 200001, 200010, 290000);
        Edges.sentence(28, "3 c f f t t: holiday(c, ff, tt).");
        good(x, 310000, 310099, 319999, 329899, 319898);
        bad(x, 330000, 319998, 310100, 300000);
        Edges.sentence(28, "4 s w 0 0 b: close(s, w, b is 1).");
        good(x, 400000, 400001, 436000, 436001);
        bad(x, 400002, 440001, 437001, 400011, 400101, 400009);
        Edges.sentence(28, "5 s t 0 0 0: swap(s, t).");
        good(x, 500000, 533000, 503000, 530000);
        bad(x, 540000, 504000, 500001, 500010, 500100);
        Edges.sentence(28, "6 w 0 0 v v: set(w, vv).");
        good(x, 600000, 600099, 610000, 610009, 620000, 620009, 630000, 630030, 640001, 640020);
        bad(x, 610010, 620010, 630031, 640000, 640021, 650001, 600100, 601000);
        Edges.sentence(28, "7 c 0 0 n n: succeeds if the credit of the customer c is at most nn.");
        good(x, 700000, 710015, 710016, 710099, 720014);
        bad(x, 710014, 710000, 720013, 730099, 710115, 711015);
        Edges.sentence(28, "8 c 0 0 0 r: succeeds if why(c) is r.");
        good(x, 800002, 810000, 820005);
        bad(x, 800001, 800003, 810001, 820004, 820006, 820009, 830000, 820015, 820105, 821005);
        Edges.sentence(28, "9 0 n n n n: succeeds if customers got at least nnnn loaves so far, "
                + "those that made credits good too.");
        good(x, 900000, 900023, 900024);
        bad(x, 900025, 909999, 910000, 910024);
        Edges.sentence(28, "The commands 1 to 6 fail if the method would throw an exception");
        LoafRounds none = new LoafRounds();
        good(none, 100001, 400001, 501000, 600000, 900000);
        bad(none, 200000, 300000, 700000, 700099, 800000, 800001, 900001, 0, 999999);
    }

    private static void script(String told, LoafRounds x, int n, long script, int want) {
        Edges.is(told + ", runScript(" + n + ", " + script + ")", x.runScript(n, script), want);
    }

    private static void commandsAreDone() {
        Edges.sentence(28, "Runs a script on a copy of the state.");
        // A command, and a question that is answered so only because of it.
        int[][] pairs = {
            {100001, 900034}, {100060, 900600}, {212000, 810001}, {212000, 820000}, {310202, 810002},
            {412001, 810003}, {521000, 820000}, {521000, 810005}, {600030, 820000}, {600009, 820004}, {600000, 810004},
        };
        for (int[] pair : pairs) {
            bad(book(), pair[1]);
            script("a command and a question", book(), 2, pair[0] * 1000000L + pair[1], -1);
        }
        script("close and open", book(), 3, 412001412000810000L, -1);
        script("close and ask", book(), 2, 412001810000L, 1);
        script("greatest credit 0 and a day", book(), 3, 630000100001710000L, -1);
        script("a day", book(), 2, 100001710000L, 1);
        LoafRounds x = book();
        x.set(0, 30);
        // 18 are due, and 24 are got already; what is to spare makes credits good.
        script("1 to spare", x, 2, 100001900043L, -1);
        script("1 to spare", x, 2, 100001900044L, 1);
        script("none to spare", x, 3, 610000100001900042L, -1);
        script("none to spare", x, 3, 610000100001900043L, 2);
        script("9 to spare, 2 made good for each", x, 3, 610009100001900046L, -1);
        script("9 to spare, 2 made good for each", x, 3, 610009100001900047L, 2);
        x.set(1, 9);
        script("none made good", x, 3, 620000100001900042L, -1);
        script("none made good", x, 3, 620000100001900043L, 2);
        script("9 made good", x, 3, 620009100001900051L, -1);
        script("9 made good", x, 3, 620009100001900052L, 2);
    }

    private static void firstThatFails() {
        Edges.sentence(28, "Returns the index, from 0, of the first command that fails; NONE if all succeed.");
        long good = 501000;
        for (int fails = 0; fails < 8; fails++) {
            long script = 0;
            for (int i = 0; i < 3; i++) {
                script = script * 1000000 + ((fails >> i & 1) == 0 ? good : 100000);
            }
            Edges.is("runScript(3, " + script + ")", book().runScript(3, script),
                    fails == 0 ? -1 : Integer.numberOfTrailingZeros(fails));
        }
        Edges.sentence(28, "and the first command is");
        Edges.sentence(28, "the highest group of the number (with zeros before it, if it has fewer digits).");
        Edges.is("runScript(2, one command)", book().runScript(2, 100001), 0);
        Edges.is("runScript(3, one command)", book().runScript(3, 100001), 0);
        Edges.is("runScript(3, two commands)", book().runScript(3, 100001100001L), 0);
        Edges.is("runScript(1, one digit)", book().runScript(1, 9), 0);
        Edges.is("runScript(2, days, zeros)", book().runScript(2, 100001000000L), 1);
        // What a command that fails would have done behind it is not asked.
        Edges.is("runScript(3, holidays)", book().runScript(3, 310000310000310000L), -1);
        Edges.is("runScript(3, holidays of one who has three)", book().runScript(3, 310000300000310000L), 1);
        LoafRounds x = book();
        x.holiday(1, 0, 0);
        Edges.is("runScript(3, holidays of one who has one)", x.runScript(3, 310000310000310000L), 2);
    }

    // ---- simulate

    /** The seed from which the first turn's r is this; low are the bits below it, which the next turn hangs on. */
    private static long seedOf(int r, long low) {
        long inverse = 1;
        for (int i = 0; i < 6; i++) {
            inverse *= 2 - FACTOR * inverse;
        }
        return (((long) r << 33 | low) - SUMMAND) * inverse;
    }

    /** A seed whose first two turns are these: kind and number q, and then days for a q that leaves this rest. */
    private static long seedOf(int kind, int q, int rest) {
        for (long low = 0; low < 100000; low++) {
            long seed = seedOf(q * 8 + kind, low);
            int second = (int) ((seed * FACTOR + SUMMAND) * FACTOR + SUMMAND >>> 33);
            if (second % 8 >= 6 && second / 8 % 9 == rest) {
                return seed;
            }
        }
        Edges.is("a seed for " + kind + " and " + q, 0, 1);
        return 0;
    }

    private static void simulateRefuses() {
        Edges.sentence(29, "- `m`: number of turns, 1 to 60");
        Edges.sentence(29, "Throws `IllegalArgumentException` if m is out of range");
        Edges.range(Edges.ARGUMENT, Edges.NEW, "simulate(0, #)", 1, 60, (x, m) -> x.simulate(0, m));
        Edges.range(Edges.ARGUMENT, Edges.BUSY, "simulate(-1, #)", 1, 60, (x, m) -> x.simulate(-1, m));
        Edges.range(Edges.ARGUMENT, Edges.FULL, "simulate(1, #)", 1, 60, (x, m) -> x.simulate(1, m));
    }

    private static int simulated(LoafRounds x, int kind, int q, int rest) {
        return x.simulate(seedOf(kind, q, rest), 2);
    }

    /** The turn, done by its method, and days behind it show the same as the simulation. */
    private static void turn(int kind, int q, Edges.Call call) {
        for (int rest : new int[] {0, 6, 8}) {
            LoafRounds x = Edges.BUSY.get();
            LoafRounds y = Edges.BUSY.get();
            int before = y.about(3);
            call.on(y);
            y.days(1 + rest);
            Edges.is("simulate of kind " + kind + ", q " + q + ", and " + (rest + 1) + " days",
                    simulated(x, kind, q, rest), 1000 * ((y.about(3) - before) % 1000) + y.about(6));
        }
    }

    private static void eachTurn() {
        Edges.sentence(29, "0: customer(q % 4, q / 4 % 10000000).");
        turn(0, 4 * 9999999 + 3, x -> x.customer(3, 9999999));
        turn(0, 4 * 10000000 + 1, x -> x.customer(1, 0));
        turn(0, 4 * 19999999, x -> x.customer(0, 9999999));
        turn(0, 4 * 1234567 + 2, x -> x.customer(2, 1234567));
        turn(0, (1 << 28) - 1, x -> x.customer(3, 7108863));
        Edges.sentence(29, "1: change(q % 10, q / 16 % 7, q / 128 % 10).");
        turn(1, 0, x -> x.change(0, 0, 0));
        turn(1, 1280 - 16 * 10 - 8, x -> x.change(2, 6, 8));
        turn(1, 128 * 9, x -> x.change(2, 2, 9));
        turn(1, 128 * 9 + 1, x -> x.change(3, 2, 9));
        turn(1, 16 * 5, x -> x.change(0, 5, 0));
        turn(1, 111, x -> x.change(1, 6, 0));
        turn(1, 113, x -> x.change(3, 0, 0));
        Edges.sentence(29, "2: holiday(q % 10, d, d + q / 512 % 9), with d as today and q / 16 % 20.");
        turn(2, 2, x -> x.holiday(2, 4, 4));
        turn(2, 642, x -> x.holiday(2, 4, 5));
        turn(2, 662, x -> x.holiday(2, 5, 6));
        turn(2, 4162, x -> x.holiday(2, 4, 12));
        turn(2, 4163, x -> x.holiday(3, 4, 12));
        turn(2, 4612, x -> x.holiday(2, 12, 12));
        turn(2, 312, x -> x.holiday(2, 23, 23));
        turn(2, 322, x -> x.holiday(2, 4, 4));
        turn(2, 372, x -> x.holiday(2, 7, 7));
        turn(2, 4160, x -> x.holiday(0, 4, 12));
        turn(2, 4161, x -> x.holiday(1, 4, 12));
        Edges.sentence(29, "3: close(q % 4, q / 4 % 7, q / 32 % 3 is 0).");
        turn(3, 3 + 4 * 6, x -> x.close(3, 6, true));
        turn(3, 4 * 5, x -> x.close(0, 5, true));
        turn(3, 4 * 7 + 1, x -> x.close(1, 0, true));
        turn(3, 32 + 2, x -> x.close(2, 1, false));
        turn(3, 64 + 4 * 5 + 1, x -> x.close(1, 0, false));
        turn(3, 96 + 4 + 2, x -> x.close(2, 4, true));
        turn(3, 4 * 13 + 1, x -> x.close(1, 6, false));
        Edges.sentence(29, "4: swap(q % 4, q / 4 % 4).");
        for (int q = 0; q < 17; q++) {
            int of = q;
            turn(4, q, x -> x.swap(of % 4, of / 4 % 4));
        }
        Edges.sentence(29, "5: set(0, q % 100), if q / 128 % 2 is 0, otherwise set(1 + q % 3, q / 4 % 10).");
        turn(5, 0, x -> x.set(0, 0));
        turn(5, 99, x -> x.set(0, 99));
        turn(5, 100, x -> x.set(0, 0));
        turn(5, 127, x -> x.set(0, 27));
        turn(5, 128, x -> x.set(3, 2));
        turn(5, 129, x -> x.set(1, 2));
        turn(5, 130, x -> x.set(2, 2));
        turn(5, 199, x -> x.set(2, 9));
        turn(5, 198, x -> x.set(1, 9));
        turn(5, 200, x -> x.set(3, 0));
        turn(5, 255, x -> x.set(1, 3));
        turn(5, 256, x -> x.set(0, 56));
        Edges.sentence(29, "Otherwise: days(1 + q % 9).");
        for (int kind = 6; kind <= 7; kind++) {
            turn(kind, 0, x -> x.days(1));
            turn(kind, 8, x -> x.days(9));
            turn(kind, 9, x -> x.days(1));
            turn(kind, (1 << 28) - 1, x -> x.days(7));
        }
    }

    private static void turnsThatAreLeftOut() {
        Edges.sentence(29, "What would throw an exception is left out.");
        turn(1, 4, x -> 0);
        turn(1, 1159, x -> 0);
        turn(2, 4, x -> 0);
        turn(2, 9, x -> 0);
        LoafRounds full = Edges.FULL.get();
        LoafRounds done = Edges.FULL.get();
        int before = done.about(3);
        done.days(9);
        int want = 1000 * ((done.about(3) - before) % 1000) + done.about(6);
        Edges.is("simulate of an eleventh customer", simulated(full, 0, 4 * 9999999, 8), want);
        Edges.is("simulate of a fourth holiday", simulated(full, 2, 4120, 8), want);
        Edges.is("simulate of a last customer's fourth holiday", simulated(full, 2, 9, 8), want);
        // Today and d may be above the last day of a holiday.
        for (int today : new int[] {979, 980, 981, 991, 992, 999, 1000}) {
            for (int q : new int[] {0, 310, 640, 4100, 4160}) {
                LoafRounds x = atDay(today);
                LoafRounds y = atDay(today);
                int d = today + q / 16 % 20;
                boolean isLeftOut = d + q / 512 % 9 > 999;
                int got = y.about(3);
                if (!isLeftOut) {
                    y.holiday(0, d, d + q / 512 % 9);
                }
                y.days(9);
                Edges.is("simulate of holidays from day " + d + ", q " + q, simulated(x, 2, q, 8),
                        1000 * (y.about(3) - got) + y.about(6));
            }
        }
    }

    private static LoafRounds atDay(int today) {
        LoafRounds x = new LoafRounds();
        for (int day = 0; day < today; day += 60) {
            x.days(Math.min(60, today - day));
        }
        x.customer(0, 1234567);
        x.set(0, 3);
        return x;
    }

    private static void numbersOfTurns() {
        Edges.sentence(29, "Simulates m turns on a copy of the state.");
        Edges.sentence(29, "Each turn first replaces x by x * 6364136223846793005L + 1442695040888963407L "
                + "(with long overflow), and r = (int) (x >>> 33) is computed.");
        LoafRounds x = Edges.NEW.get();
        Edges.is("simulate of a new object's first turn", x.simulate(seedOf(6 + 8 * 8, 0), 1), 0);
        x.customer(0, 1234567);
        x.set(0, 4);
        Edges.is("simulate(.., 1) of one day", x.simulate(seedOf(6, 0), 1), 1000);
        Edges.is("simulate(.., 1) of nine days", x.simulate(seedOf(7 + 8 * 8, 12345), 1), 1000 * 25 + 4);
        Edges.is("simulate(.., 1) of the greatest r", x.simulate(seedOf(Integer.MAX_VALUE, 1), 1), 1000 * 22 + 6);
        Edges.is("simulate(.., 1) of no day", x.simulate(seedOf(0, 99), 1), 0);
        Edges.is("simulate(.., 2) of one and nine days", simulated(x, 6, 0, 8), 1000 * 28 + 3);
        Edges.is("simulate(.., 2) of nine days and one", simulated(x, 7, 8, 0), 1000 * 28 + 3);
    }

    private static void copiesAreNew() {
        Edges.sentence(29, "Simulates m turns on a copy of the state.");
        LoafRounds x = EdgesOfActions.withAnAccount();
        Edges.is("creditIn(1, 3)", x.creditIn(1, 3), 6);
        for (int i = 0; i < 8; i++) {
            x.undo();
        }
        int q = 4 * 5000000 + 2;
        Edges.is("simulate of a customer behind creditIn", simulated(x, 0, q, 8), 10000);
        Edges.is("simulate of the same once more", simulated(x, 0, q, 8), 10000);
        Edges.is("customers behind simulate", x.about(0), 1);
    }

    private static void moduloThousand() {
        Edges.sentence(29, "Returns 1000 * (the loaves due that customers got in the turns, modulo 1000) "
                + "+ (the credits of all customers together at the end).");
        for (int more = -1; more <= 1; more++) {
            LoafRounds x = new LoafRounds();
            for (int c = 0; c < 10; c++) {
                // 12 days are two weeks but the last two weekdays of one of them.
                x.customer(c % 4, 9999955 + (c == 9 ? more * 10 : 0));
            }
            x.set(0, 99);
            int want = more < 0 ? 999000 : 1000 * more;
            Edges.is("simulate of " + (1000 + more) + " loaves", simulated(x, 6, 8, 2), want);
            x.set(1, 9);
            x.days(7);
            Edges.is("simulate of " + (1000 + more) + " loaves more", simulated(x, 6, 8, 2), want);
        }
        LoafRounds y = new LoafRounds();
        for (int c = 0; c < 10; c++) {
            y.customer(c % 4, 9999999);
        }
        y.set(0, 0);
        y.set(3, 30);
        Edges.is("simulate of credits alone", simulated(y, 6, 8, 2), 300);
        y.days(1);
        y.set(0, 9);
        Edges.is("simulate of 9 loaves a day", y.simulate(seedOf(6, 5), 1), 9000 + 9 * 10 + 9 * 9);
    }

    private static void seeds() {
        Edges.sentence(29, "- `seed`: any long");
        Edges.sentence(29, "A long x starts as the seed.");
        long[] seeds = {0, 1, -1, Long.MIN_VALUE, Long.MAX_VALUE, Long.MIN_VALUE + 1, 1L << 33, 1L << 32};
        for (long seed : seeds) {
            for (int m : new int[] {1, 2, 59, 60}) {
                LoafRounds x = Edges.FULL.get();
                Model model = new Model();
                copyFull(model);
                Edges.is("simulate(" + seed + ", " + m + ")", x.simulate(seed, m), model.simulate(seed, m));
            }
        }
    }

    /** The calls that make Edges.FULL, on a model. */
    private static void copyFull(Model model) {
        for (int c = 0; c < 10; c++) {
            model.customer(c % 4, 9999999 - 1111111 * (c % 5));
        }
        for (int day = 1; day <= 3; day++) {
            model.holiday(0, day, day + 7);
            model.holiday(9, 999 - day, 999);
        }
        model.days(2);
    }
}
