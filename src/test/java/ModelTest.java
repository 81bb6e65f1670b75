import java.util.Random;
import java.util.function.IntSupplier;

/** All promises: long runs of calls on the program and on the slow model beside it, answer by answer. */
public final class ModelTest {
    private static final int RUNS = 150;
    private static final int CALLS = 512;

    private final Random random;
    private final String name;
    private final LoafRounds program = new LoafRounds();
    private final Model model = new Model();

    private ModelTest(int seed) {
        random = new Random(seed);
        name = "run " + seed + " ";
    }

    public static void main(String[] args) {
        for (int seed = 0; seed < RUNS; seed++) {
            ModelTest test = new ModelTest(seed);
            for (int i = 0; i < CALLS; i++) {
                test.call(i);
            }
        }
        Checks.end();
    }

    /** A number from a range, now and then one beyond it. */
    private int in(int least, int greatest) {
        int chance = random.nextInt(60);
        if (chance == 0) {
            return least - 1;
        }
        if (chance == 1) {
            return greatest + 1;
        }
        if (chance == 2) {
            return random.nextInt();
        }
        if (chance < 6) {
            return random.nextBoolean() ? least : greatest;
        }
        return least + random.nextInt(greatest - least + 1);
    }

    private int guest() {
        return in(0, Math.max(1, model.about(0)) - 1);
    }

    private void both(String call, IntSupplier ofProgram, IntSupplier ofModel) {
        Checks.same(name + call, answer(ofProgram), answer(ofModel));
    }

    private static String answer(IntSupplier supplier) {
        try {
            return "" + supplier.getAsInt();
        } catch (IndexOutOfBoundsException | IllegalArgumentException | IllegalStateException e) {
            return e.getClass().getName();
        }
    }

    private void call(int i) {
        int kind = random.nextInt(100);
        if (kind < 45) {
            action(i);
        } else if (kind < 75) {
            question(i);
        } else if (kind < 92) {
            forecast(i);
        } else if (kind < 96) {
            text(i);
        } else {
            slot(i);
        }
    }

    private void action(int i) {
        int c = guest();
        int s = in(0, 3);
        int w = in(0, 6);
        switch (random.nextInt(12)) {
            case 0 -> {
                int week = random.nextInt(3) == 0 ? in(0, 9999999) : random.nextInt(10) * 1111111;
                both(i + " customer", () -> program.customer(s, week), () -> model.customer(s, week));
            }
            case 1 -> {
                int n = in(0, 9);
                both(i + " change", () -> program.change(c, w, n), () -> model.change(c, w, n));
            }
            case 2, 3 -> {
                int from = random.nextInt(4) == 0 ? in(0, 999) : model.about(1) + random.nextInt(30) - 3;
                int to = random.nextInt(9) == 0 ? in(0, 999) : from + random.nextInt(12);
                both(i + " holiday", () -> program.holiday(c, from, to), () -> model.holiday(c, from, to));
            }
            case 4 -> {
                int k = in(0, 2);
                both(i + " drop", () -> program.drop(c, k), () -> model.drop(c, k));
            }
            case 5 -> {
                boolean on = random.nextBoolean();
                both(i + " close", () -> program.close(s, w, on), () -> model.close(s, w, on));
            }
            case 6 -> {
                int other = in(0, 3);
                both(i + " swap", () -> program.swap(s, other), () -> model.swap(s, other));
            }
            case 7, 8 -> {
                int what = in(0, 4);
                int most = what == 0 ? 99 : what == 3 ? 30 : what == 4 ? 20 : 9;
                int v = in(what == 4 ? 1 : 0, most);
                both(i + " set", () -> program.set(what, v), () -> model.set(what, v));
            }
            case 9 -> both(i + " undo", program::undo, model::undo);
            default -> {
                int n = random.nextInt(4) == 0 ? in(1, 60) : in(1, 4);
                both(i + " days", () -> program.days(n), () -> model.days(n));
            }
        }
    }

    private void question(int i) {
        int c = guest();
        int s = in(0, 3);
        int w = in(0, 6);
        switch (random.nextInt(8)) {
            case 0, 1 -> {
                for (int j = -1; j <= 13; j++) {
                    int what = j;
                    both(i + " about " + what, () -> program.about(what), () -> model.about(what));
                }
            }
            case 2, 3 -> {
                for (int j = -1; j <= 11; j++) {
                    int what = j;
                    both(i + " customerOf " + what, () -> program.customerOf(c, what),
                            () -> model.customerOf(c, what));
                }
            }
            case 4 -> both(i + " ordered", () -> program.ordered(c, w), () -> model.ordered(c, w));
            case 5 -> {
                int k = in(0, 2);
                int what = in(0, 1);
                both(i + " away", () -> program.away(c, k, what), () -> model.away(c, k, what));
            }
            case 6 -> {
                both(i + " isClosed", () -> program.isClosed(s, w), () -> model.isClosed(s, w));
                both(i + " round", () -> program.round(s), () -> model.round(s));
                int what = in(0, 4);
                both(i + " setting", () -> program.setting(what), () -> model.setting(what));
            }
            default -> {
                int from = random.nextInt(2) == 0 ? in(0, 999) : Math.min(999, model.about(1));
                int days = random.nextInt(2) == 0 ? in(0, 500) : in(0, 40);
                int way = in(0, 1);
                both(i + " due", () -> program.due(c, from, days, way), () -> model.due(c, from, days, way));
            }
        }
    }

    private void forecast(int i) {
        int c = guest();
        switch (random.nextInt(8)) {
            case 0, 1 -> both(i + " why", () -> program.why(c), () -> model.why(c));
            case 2 -> {
                int n = in(0, 200);
                both(i + " creditIn", () -> program.creditIn(c, n), () -> model.creditIn(c, n));
            }
            case 3 -> both(i + " clearIn", () -> program.clearIn(c), () -> model.clearIn(c));
            case 4 -> {
                int n = random.nextBoolean() ? in(1, 60) : in(1, 7);
                both(i + " leastOven", () -> program.leastOven(n), () -> model.leastOven(n));
            }
            case 5 -> {
                int n = in(1, 30);
                both(i + " bestRound", () -> program.bestRound(n), () -> model.bestRound(n));
            }
            case 6 -> {
                int n = in(1, 3);
                long script = script(Math.min(3, Math.max(1, n)));
                both(i + " runScript " + n + " " + script, () -> program.runScript(n, script),
                        () -> model.runScript(n, script));
            }
            default -> {
                long seed = random.nextLong();
                int m = in(1, 60);
                both(i + " simulate " + seed, () -> program.simulate(seed, m), () -> model.simulate(seed, m));
            }
        }
    }

    private long script(int n) {
        if (random.nextInt(30) == 0) {
            return random.nextLong();
        }
        long script = 0;
        for (int i = 0; i < n; i++) {
            script = script * 1000000 + group();
        }
        return script;
    }

    private int group() {
        int c = random.nextInt(Math.max(1, model.about(0)) + (random.nextInt(9) == 0 ? 1 : 0)) % 10;
        int w = random.nextInt(7);
        int s = random.nextInt(4);
        int group = switch (random.nextInt(10)) {
            case 0 -> 100000 + random.nextInt(61);
            case 1 -> 200000 + c * 10000 + w * 1000 + random.nextInt(10) * 100;
            case 2 -> 300000 + c * 10000 + random.nextInt(10000);
            case 3 -> 400000 + s * 10000 + w * 1000 + random.nextInt(2);
            case 4 -> 500000 + s * 10000 + random.nextInt(4) * 1000;
            case 5 -> 600000 + random.nextInt(5) * 10000 + random.nextInt(random.nextBoolean() ? 10 : 100);
            case 6 -> 700000 + c * 10000 + random.nextInt(12);
            case 7 -> 800000 + c * 10000 + random.nextInt(6);
            case 8 -> 900000 + Math.min(9999, model.about(3) + model.about(4) + random.nextInt(20));
            default -> random.nextInt(1000000);
        };
        int odd = new int[] {1, 10, 100, 1000, 10000}[random.nextInt(5)];
        return random.nextInt(12) == 0 ? Math.min(999999, group + odd) : group;
    }

    private void text(int i) {
        both(i + " clearText", program::clearText, model::clearText);
        StringBuilder book = new StringBuilder("B");
        int commands = random.nextInt(24);
        for (int j = 0; j < commands; j++) {
            book.append(command());
        }
        if (random.nextInt(3) == 0) {
            int at = random.nextInt(book.length());
            book.setCharAt(at, (char) (random.nextBoolean() ? '+' + random.nextInt(16) : random.nextInt(256)));
        }
        int length = random.nextInt(4) == 0 ? random.nextInt(book.length() + 1) : book.length();
        for (int j = 0; j < length; j++) {
            int sign = random.nextInt(500) == 0 ? in(0, 255) : book.charAt(j);
            both(i + " append", () -> program.append(sign), () -> model.append(sign));
        }
        both(i + " errorPosition", program::errorPosition, model::errorPosition);
        if (random.nextInt(2) == 0) {
            both(i + " load", program::load, model::load);
        }
    }

    private String command() {
        int kind = random.nextInt(8);
        int digits = random.nextInt(10000000);
        int s = random.nextInt(4);
        int w = random.nextInt(7);
        return switch (kind) {
            case 0, 1 -> String.format("c%d%07d", s, digits);
            case 2 -> String.format("n%d%d%d", random.nextInt(4), w, digits % 10);
            case 3 -> String.format("h%d%02d%02d", random.nextInt(4), random.nextInt(20), random.nextInt(100));
            case 4 -> "x" + s + w + (random.nextBoolean() ? "+" : "-");
            case 5 -> "v" + s + random.nextInt(4);
            case 6 -> String.format("s%d%02d", random.nextInt(5), digits % 32);
            default -> String.format("d%02d", random.nextInt(62));
        };
    }

    private void slot(int i) {
        int slot = in(0, 1);
        if (random.nextInt(2) == 0) {
            both(i + " save", () -> program.save(slot), () -> model.save(slot));
        } else {
            both(i + " restore", () -> program.restore(slot), () -> model.restore(slot));
        }
    }
}
