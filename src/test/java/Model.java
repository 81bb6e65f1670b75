import java.util.ArrayList;
import java.util.List;
import java.util.regex.Matcher;
import java.util.regex.Pattern;

/**
 * A slow bakery, written by the document's words alone and in other ways than the program: it tries things
 * out by delivering, keeps its states as whole copies, and reads texts by a pattern.
 */
final class Model {
    private static final Pattern BOOK = Pattern.compile("B(?:c[0-3][0-9]{7}|n[0-9][0-6][0-9]|h[0-9]{5}"
            + "|x[0-3][0-6][+-]|v[0-3]{2}|s[0-4][0-9]{2}|d(?:0[1-9]|[1-5][0-9]|60))*+");
    private static final Pattern COMMAND = Pattern.compile("[a-z][0-9+-]+");
    private static final int[] LEAST = {0, 0, 0, 0, 1};
    private static final int[] MOST = {99, 9, 9, 30, 20};

    private static final class Guest {
        int street;
        int[] week = new int[7];
        List<int[]> holidays = new ArrayList<>();
        int credit;
        int got;
        int good;
        int back;
        int missed;
        int shorts;

        Guest copy() {
            Guest other = new Guest();
            other.street = street;
            other.week = week.clone();
            other.holidays = new ArrayList<>(holidays);
            other.credit = credit;
            other.got = got;
            other.good = good;
            other.back = back;
            other.missed = missed;
            other.shorts = shorts;
            return other;
        }

        boolean away(int day) {
            return holidays.stream().anyMatch(h -> h[0] <= day && day <= h[1]);
        }

        int due(int day) {
            return away(day) ? 0 : week[day % 7];
        }
    }

    private static final class Bakery {
        List<Guest> guests = new ArrayList<>();
        List<Integer> round = new ArrayList<>(List.of(0, 1, 2, 3));
        boolean[][] closed = new boolean[4][7];
        int[] settings = {30, 1, 2, 10, 3};
        int today;
        int baked;
        int stale;
        int coins;
        int coinsBack;
        int lackedWhereOpen;

        Bakery copy() {
            Bakery other = new Bakery();
            for (Guest guest : guests) {
                other.guests.add(guest.copy());
            }
            other.round = new ArrayList<>(round);
            for (int s = 0; s < 4; s++) {
                other.closed[s] = closed[s].clone();
            }
            other.settings = settings.clone();
            other.today = today;
            other.baked = baked;
            other.stale = stale;
            other.coins = coins;
            other.coinsBack = coinsBack;
            return other;
        }

        int sum(java.util.function.ToIntFunction<Guest> number) {
            return guests.stream().mapToInt(number).sum();
        }

        List<Guest> inOrder() {
            List<Guest> order = new ArrayList<>();
            for (int s : round) {
                guests.stream().filter(g -> g.street == s).forEach(order::add);
            }
            return order;
        }

        void day() {
            int van = Math.min(sum(g -> g.due(today)) + settings[1], settings[0]);
            baked += van;
            for (Guest g : inOrder()) {
                int due = g.due(today);
                coins += due * settings[4];
                int gets = 0;
                while (!closed[g.street][today % 7] && gets < due && van > 0) {
                    gets++;
                    van--;
                }
                g.got += gets;
                g.credit += due - gets;
                g.missed += due > 0 && gets == 0 ? 1 : 0;
                g.shorts += gets > 0 && gets < due ? 1 : 0;
                lackedWhereOpen += closed[g.street][today % 7] ? 0 : due - gets;
            }
            for (Guest g : inOrder()) {
                for (int i = 0; i < settings[2]; i++) {
                    if (g.credit > 0 && van > 0 && !g.away(today) && !closed[g.street][today % 7]) {
                        g.credit--;
                        g.good++;
                        van--;
                    }
                }
            }
            stale += van;
            for (Guest g : guests) {
                while (g.credit > settings[3]) {
                    g.credit--;
                    g.back++;
                    coinsBack += settings[4];
                }
            }
            today++;
        }
    }

    private Bakery now = new Bakery();
    private final List<Bakery> past = new ArrayList<>();
    private final Bakery[] slots = new Bakery[2];
    private String text = "";

    private static void place(boolean isThere) {
        if (!isThere) {
            throw new IndexOutOfBoundsException();
        }
    }

    private static void argument(boolean isInRange) {
        if (!isInRange) {
            throw new IllegalArgumentException();
        }
    }

    private static void state(boolean isPossible) {
        if (!isPossible) {
            throw new IllegalStateException();
        }
    }

    private Guest guest(int c) {
        place(c >= 0 && c < now.guests.size());
        return now.guests.get(c);
    }

    private static void streetAndWeekday(int s, int w) {
        place(s >= 0 && s < 4 && w >= 0 && w < 7);
    }

    private void remember() {
        past.add(now.copy());
        if (past.size() > 14) {
            past.remove(0);
        }
    }

    int append(int c) {
        argument(c >= 0 && c <= 255);
        state(text.length() < 120);
        text += (char) c;
        return text.length();
    }

    int clearText() {
        int length = text.length();
        text = "";
        return length;
    }

    int errorPosition() {
        for (int length = 1; length <= text.length(); length++) {
            Matcher matcher = BOOK.matcher(text.substring(0, length));
            if (!matcher.matches() && !matcher.hitEnd()) {
                return length - 1;
            }
        }
        return BOOK.matcher(text).matches() ? -1 : text.length();
    }

    int load() {
        state(errorPosition() == -1);
        now = new Bakery();
        int leftOut = 0;
        Matcher commands = COMMAND.matcher(text);
        while (commands.find()) {
            try {
                obey(commands.group());
            } catch (IndexOutOfBoundsException | IllegalArgumentException | IllegalStateException e) {
                leftOut++;
            }
        }
        past.clear();
        slots[0] = null;
        slots[1] = null;
        return leftOut;
    }

    private static int part(String command, int from, int to) {
        return Integer.parseInt(command.substring(from, to));
    }

    private void obey(String command) {
        switch (command.charAt(0)) {
            case 'c' -> customer(part(command, 1, 2), part(command, 2, 9));
            case 'n' -> change(part(command, 1, 2), part(command, 2, 3), part(command, 3, 4));
            case 'h' -> holiday(part(command, 1, 2), part(command, 2, 4), part(command, 4, 6));
            case 'x' -> close(part(command, 1, 2), part(command, 2, 3), command.endsWith("+"));
            case 'v' -> swap(part(command, 1, 2), part(command, 2, 3));
            case 's' -> set(part(command, 1, 2), part(command, 2, 4));
            default -> days(part(command, 1, 3));
        }
    }

    int about(int what) {
        argument(what >= 0 && what <= 12);
        return new int[] {now.guests.size(), now.today, now.baked, now.sum(g -> g.got), now.sum(g -> g.good),
            now.stale, now.sum(g -> g.credit), now.sum(g -> g.back), now.coins, now.coinsBack,
            now.sum(g -> g.missed), now.sum(g -> g.shorts), now.sum(g -> g.due(now.today))}[what];
    }

    int customerOf(int c, int what) {
        Guest g = guest(c);
        argument(what >= 0 && what <= 10);
        int week = 0;
        for (int n : g.week) {
            week += n;
        }
        int next = now.today;
        while (next <= now.today + 200 && g.due(next) == 0) {
            next++;
        }
        return new int[] {g.street, week, g.credit, g.got, g.good, g.back, g.missed, g.shorts, g.holidays.size(),
            g.due(now.today), next > now.today + 200 ? -1 : next}[what];
    }

    int ordered(int c, int w) {
        Guest g = guest(c);
        place(w >= 0 && w < 7);
        return g.week[w];
    }

    int away(int c, int k, int what) {
        Guest g = guest(c);
        place(k >= 0 && k < 3);
        argument(what == 0 || what == 1);
        return k < g.holidays.size() ? g.holidays.get(k)[what] : -1;
    }

    int isClosed(int s, int w) {
        streetAndWeekday(s, w);
        return now.closed[s][w] ? 1 : 0;
    }

    int round(int p) {
        place(p >= 0 && p < 4);
        return now.round.get(p);
    }

    int setting(int what) {
        argument(what >= 0 && what < 5);
        return now.settings[what];
    }

    int due(int c, int from, int days, int way) {
        Guest g = guest(c);
        argument(from >= 0 && from <= 999 && days >= 0 && days <= 500 && way >= 0 && way <= 1);
        int loaves = 0;
        for (int i = 0; i < days; i++) {
            loaves += g.due(from + i);
        }
        return loaves;
    }

    int customer(int s, int week) {
        place(s >= 0 && s < 4);
        argument(week >= 0 && week <= 9999999);
        state(now.guests.size() < 10);
        remember();
        Guest g = new Guest();
        g.street = s;
        String digits = String.format("%07d", week);
        for (int w = 0; w < 7; w++) {
            g.week[w] = digits.charAt(w) - '0';
        }
        now.guests.add(g);
        return now.guests.size() - 1;
    }

    int change(int c, int w, int n) {
        int before = ordered(c, w);
        argument(n >= 0 && n <= 9);
        remember();
        guest(c).week[w] = n;
        return before;
    }

    int holiday(int c, int from, int to) {
        Guest g = guest(c);
        argument(from >= 0 && from <= 999 && to >= from && to <= 999);
        state(g.holidays.size() < 3);
        remember();
        g.holidays.add(new int[] {from, to});
        return g.holidays.size();
    }

    int drop(int c, int k) {
        Guest g = guest(c);
        place(k >= 0 && k < g.holidays.size());
        remember();
        g.holidays.remove(k);
        return g.holidays.size();
    }

    int close(int s, int w, boolean on) {
        streetAndWeekday(s, w);
        remember();
        now.closed[s][w] = on;
        int count = 0;
        for (boolean shut : now.closed[s]) {
            count += shut ? 1 : 0;
        }
        return count;
    }

    int swap(int s, int other) {
        place(s >= 0 && s < 4 && other >= 0 && other < 4);
        remember();
        java.util.Collections.swap(now.round, now.round.indexOf(s), now.round.indexOf(other));
        return now.round.indexOf(s);
    }

    int set(int what, int v) {
        argument(what >= 0 && what < 5);
        argument(v >= LEAST[what] && v <= MOST[what]);
        remember();
        int before = now.settings[what];
        now.settings[what] = v;
        return before;
    }

    int days(int n) {
        argument(n >= 1 && n <= 60);
        remember();
        int before = about(3) + about(4);
        for (int i = 0; i < n; i++) {
            now.day();
        }
        return about(3) + about(4) - before;
    }

    int undo() {
        state(!past.isEmpty());
        now = past.remove(past.size() - 1);
        return past.size();
    }

    int why(int c) {
        Guest g = guest(c);
        if (g.week[now.today % 7] == 0) {
            return 1;
        }
        if (g.away(now.today)) {
            return 2;
        }
        if (now.closed[g.street][now.today % 7]) {
            return 3;
        }
        Bakery tried = now.copy();
        tried.day();
        Guest then = tried.guests.get(c);
        return then.missed > g.missed ? 4 : then.shorts > g.shorts ? 5 : 0;
    }

    int creditIn(int c, int n) {
        guest(c);
        argument(n >= 0 && n <= 200);
        Bakery tried = now.copy();
        for (int i = 0; i < n; i++) {
            tried.day();
        }
        return tried.guests.get(c).credit;
    }

    int clearIn(int c) {
        guest(c);
        Bakery tried = now.copy();
        int days = 0;
        while (tried.guests.get(c).credit > 0 && days < 201) {
            tried.day();
            days++;
        }
        return days > 200 ? -1 : days;
    }

    int leastOven(int n) {
        argument(n >= 1 && n <= 60);
        for (int oven = 0; ; oven++) {
            Bakery tried = now.copy();
            tried.settings[0] = oven;
            tried.lackedWhereOpen = 0;
            for (int i = 0; i < n; i++) {
                tried.day();
            }
            if (tried.lackedWhereOpen == 0) {
                return oven;
            }
        }
    }

    int bestRound(int n) {
        argument(n >= 1 && n <= 30);
        int best = -1;
        int least = Integer.MAX_VALUE;
        for (int number = 0; number <= 3210; number++) {
            String digits = String.format("%04d", number);
            if (!digits.contains("0") || !digits.contains("1") || !digits.contains("2") || !digits.contains("3")) {
                continue;
            }
            Bakery tried = now.copy();
            for (int p = 0; p < 4; p++) {
                tried.round.set(p, digits.charAt(p) - '0');
            }
            for (int i = 0; i < n; i++) {
                tried.day();
            }
            int credits = tried.sum(g -> g.credit);
            if (credits < least) {
                least = credits;
                best = number;
            }
        }
        return best;
    }

    int runScript(int n, long script) {
        argument(n >= 1 && n <= 3);
        argument(script >= 0 && Long.toString(script).length() <= 6 * n);
        String digits = String.format("%0" + 6 * n + "d", script);
        Model tried = onCopy();
        for (int i = 0; i < n; i++) {
            try {
                argument(tried.succeeds(digits.substring(6 * i, 6 * i + 6)));
            } catch (IndexOutOfBoundsException | IllegalArgumentException | IllegalStateException e) {
                return i;
            }
        }
        return -1;
    }

    private Model onCopy() {
        Model tried = new Model();
        tried.now = now.copy();
        return tried;
    }

    private boolean succeeds(String d) {
        int second = part(d, 1, 2);
        int third = part(d, 2, 3);
        if (d.matches("1000..")) {
            days(part(d, 4, 6));
            return true;
        }
        if (d.matches("2...00")) {
            change(second, third, part(d, 3, 4));
            return true;
        }
        if (d.matches("3.....")) {
            holiday(second, part(d, 2, 4), part(d, 4, 6));
            return true;
        }
        if (d.matches("4..00[01]")) {
            close(second, third, d.endsWith("1"));
            return true;
        }
        if (d.matches("5..000")) {
            swap(second, third);
            return true;
        }
        if (d.matches("6.00..")) {
            set(second, part(d, 4, 6));
            return true;
        }
        return d.matches("7.00..") && customerOf(second, 2) <= part(d, 4, 6)
                || d.matches("8.000.") && why(second) == part(d, 5, 6)
                || d.matches("90....") && about(3) + about(4) >= part(d, 2, 6);
    }

    int simulate(long seed, int m) {
        argument(m >= 1 && m <= 60);
        Model tried = onCopy();
        long x = seed;
        for (int i = 0; i < m; i++) {
            x = x * 6364136223846793005L + 1442695040888963407L;
            int r = (int) (x >>> 33);
            try {
                tried.turn(r % 8, r / 8);
            } catch (IndexOutOfBoundsException | IllegalArgumentException | IllegalStateException e) {
                // What throws is left out.
            }
        }
        return 1000 * ((tried.about(3) - about(3)) % 1000) + tried.about(6);
    }

    private void turn(int kind, int q) {
        int d = now.today + q / 16 % 20;
        switch (kind) {
            case 0 -> customer(q % 4, q / 4 % 10000000);
            case 1 -> change(q % 10, q / 16 % 7, q / 128 % 10);
            case 2 -> holiday(q % 10, d, d + q / 512 % 9);
            case 3 -> close(q % 4, q / 4 % 7, q / 32 % 3 == 0);
            case 4 -> swap(q % 4, q / 4 % 4);
            case 5 -> {
                if (q / 128 % 2 == 0) {
                    set(0, q % 100);
                } else {
                    set(1 + q % 3, q / 4 % 10);
                }
            }
            default -> days(1 + q % 9);
        }
    }

    int save(int slot) {
        place(slot == 0 || slot == 1);
        slots[slot] = now.copy();
        return now.today;
    }

    int restore(int slot) {
        place(slot == 0 || slot == 1);
        state(slots[slot] != null);
        now = slots[slot].copy();
        past.clear();
        return now.today;
    }
}
