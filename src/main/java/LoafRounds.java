/**
 * A bakery's standing orders: who gets how many loaves on which weekday, who is
 * away, how the van goes round, and what is owed when it runs out of loaves.
 */
public final class LoafRounds {

    public static final int NONE = -1;

    private static final int STREETS = 4;
    private static final int CUSTOMERS = 10;
    private static final int WEEKDAYS = 7;
    private static final int HOLIDAYS = 3;
    private static final int SETTINGS = 5;
    private static final int SLOTS = 2;
    private static final int REMEMBERED = 14;
    private static final int TEXT_LENGTH = 120;

    private static final int GREATEST_SIGN = 255;
    private static final int GREATEST_LOAVES = 9;
    private static final int GREATEST_WEEK = 9999999;
    private static final int GREATEST_DAY = 999;
    private static final int GREATEST_SPAN = 500;
    private static final int GREATEST_DELIVERY = 60;
    private static final int GREATEST_OUTLOOK = 200;
    private static final int GREATEST_ROUND_TRIAL = 30;
    private static final int GREATEST_SCRIPT = 3;
    private static final int GREATEST_TURNS = 60;
    private static final int GREATEST_ABOUT = 12;
    private static final int GROUP = 1000000;

    private static final int OVEN = 0;
    private static final int SPARE = 1;
    private static final int MADE_GOOD_A_DAY = 2;
    private static final int GREATEST_CREDIT = 3;
    private static final int PRICE = 4;
    private static final int[] FIRST_SETTING = {30, 1, 2, 10, 3};
    private static final int[] LEAST_SETTING = {0, 0, 0, 0, 1};
    private static final int[] GREATEST_SETTING = {99, 9, 9, 30, 20};

    // What customerOf() calls the numbers of a customer.
    private static final int OF_STREET = 0;
    private static final int OF_ALL_WEEKDAYS = 1;
    private static final int OF_CREDIT = 2;
    private static final int OF_GOT = 3;
    private static final int OF_MADE_GOOD = 4;
    private static final int OF_PAID_BACK = 5;
    private static final int OF_MISSED = 6;
    private static final int OF_SHORT = 7;
    private static final int OF_DUE_TODAY = 9;
    private static final int OF_NEXT_DUE_DAY = 10;

    private static final int ADD_CUSTOMER = 0;
    private static final int CHANGE_LOAVES = 1;
    private static final int ADD_HOLIDAY = 2;
    private static final int DROP_HOLIDAY = 3;
    private static final int CLOSE_STREET = 4;
    private static final int SWAP_STREETS = 5;
    private static final int CHANGE_SETTING = 6;
    private static final int DELIVER = 7;

    // What an action that is refused answers; no other answer of one is below 0.
    private static final int REFUSED = -1;

    private final Text text = new Text();
    private final Book book = new Book();
    private final Book trial = new Book();
    private final Memory memory = new Memory();
    private final Book[] slots = new Book[SLOTS];
    private final boolean[] isSaved = new boolean[SLOTS];

    public LoafRounds() {
        for (int slot = 0; slot < SLOTS; slot++) {
            slots[slot] = new Book();
        }
    }

    // ---- text

    public int append(int c) throws IllegalArgumentException, IllegalStateException {
        demandArgument(isWithin(c, 0, GREATEST_SIGN));
        demandState(text.length < TEXT_LENGTH);
        return text.add((char) c);
    }

    public int clearText() {
        return text.empty();
    }

    public int errorPosition() {
        return text.firstError();
    }

    public int load() throws IllegalStateException {
        demandState(text.firstError() == NONE);
        book.makeNew();
        memory.forgetAll();
        for (int slot = 0; slot < SLOTS; slot++) {
            isSaved[slot] = false;
        }
        int leftOut = 0;
        for (int at = 1; at < text.length; at += 1 + text.formLength(at)) {
            if (text.doCommand(at, book) == REFUSED) {
                leftOut++;
            }
        }
        return leftOut;
    }

    // ---- what there is

    public int about(int what) throws IllegalArgumentException {
        demandArgument(isWithin(what, 0, GREATEST_ABOUT));
        return book.numberOf(what);
    }

    public int customerOf(int c, int what) throws IndexOutOfBoundsException, IllegalArgumentException {
        demandPlace(book.hasCustomer(c));
        demandArgument(isWithin(what, 0, OF_NEXT_DUE_DAY));
        switch (what) {
            case OF_DUE_TODAY:
                return book.customers[c].dueOn(book.today);
            case OF_NEXT_DUE_DAY:
                return book.customers[c].nextDueDay(book.today);
            default:
                return book.customers[c].numberOf(what);
        }
    }

    public int ordered(int c, int w) throws IndexOutOfBoundsException {
        demandPlace(book.hasCustomer(c) && isWeekday(w));
        return book.customers[c].week[w];
    }

    public int away(int c, int k, int what) throws IndexOutOfBoundsException, IllegalArgumentException {
        demandPlace(book.hasCustomer(c) && isWithin(k, 0, HOLIDAYS - 1));
        demandArgument(isWithin(what, 0, 1));
        Customer customer = book.customers[c];
        if (k >= customer.holidays) {
            return NONE;
        }
        return what == 0 ? customer.firstDay[k] : customer.lastDay[k];
    }

    public int isClosed(int s, int w) throws IndexOutOfBoundsException {
        demandPlace(isStreet(s) && isWeekday(w));
        return book.isShut(s, w) ? 1 : 0;
    }

    public int round(int place) throws IndexOutOfBoundsException {
        demandPlace(isWithin(place, 0, STREETS - 1));
        return book.order[place];
    }

    public int setting(int what) throws IllegalArgumentException {
        demandArgument(isSetting(what));
        return book.settings[what];
    }

    public int due(int c, int from, int days, int way) throws IndexOutOfBoundsException, IllegalArgumentException {
        demandPlace(book.hasCustomer(c));
        demandArgument(isWithin(from, 0, GREATEST_DAY));
        demandArgument(isWithin(days, 0, GREATEST_SPAN));
        demandArgument(isWithin(way, 0, 1));
        Customer customer = book.customers[c];
        return way == 0 ? customer.dueDayByDay(from, days) : customer.dueByWeeks(from, days);
    }

    // ---- actions

    public int customer(int s, int week)
            throws IndexOutOfBoundsException, IllegalArgumentException, IllegalStateException {
        return act(ADD_CUSTOMER, s, week, 0);
    }

    public int change(int c, int w, int n) throws IndexOutOfBoundsException, IllegalArgumentException {
        return act(CHANGE_LOAVES, c, w, n);
    }

    public int holiday(int c, int from, int to)
            throws IndexOutOfBoundsException, IllegalArgumentException, IllegalStateException {
        return act(ADD_HOLIDAY, c, from, to);
    }

    public int drop(int c, int k) throws IndexOutOfBoundsException {
        return act(DROP_HOLIDAY, c, k, 0);
    }

    public int close(int s, int w, boolean on) throws IndexOutOfBoundsException {
        return act(CLOSE_STREET, s, w, on ? 1 : 0);
    }

    public int swap(int s, int other) throws IndexOutOfBoundsException {
        return act(SWAP_STREETS, s, other, 0);
    }

    public int set(int what, int v) throws IllegalArgumentException {
        return act(CHANGE_SETTING, what, v, 0);
    }

    public int days(int n) throws IllegalArgumentException {
        return act(DELIVER, n, 0, 0);
    }

    public int undo() throws IllegalStateException {
        demandState(memory.count > 0);
        return memory.takeBack(book);
    }

    // ---- what would be, if nothing else is done

    public int why(int c) throws IndexOutOfBoundsException {
        demandPlace(book.hasCustomer(c));
        return book.reasonFor(c);
    }

    public int creditIn(int c, int n) throws IndexOutOfBoundsException, IllegalArgumentException {
        demandPlace(book.hasCustomer(c));
        demandArgument(isWithin(n, 0, GREATEST_OUTLOOK));
        trial.copyFrom(book);
        trial.deliver(n);
        return trial.customers[c].credit;
    }

    public int clearIn(int c) throws IndexOutOfBoundsException {
        demandPlace(book.hasCustomer(c));
        trial.copyFrom(book);
        for (int passed = 0; passed <= GREATEST_OUTLOOK; passed++) {
            if (trial.customers[c].credit == 0) {
                return passed;
            }
            trial.deliver(1);
        }
        return NONE;
    }

    public int leastOven(int n) throws IllegalArgumentException {
        demandArgument(isWithin(n, 1, GREATEST_DELIVERY));
        // What is due never hangs on the oven: it only must bake, on each day, what open streets are due.
        int least = 0;
        for (int day = book.today; day < book.today + n; day++) {
            least = Math.max(least, book.dueInOpenStreets(day));
        }
        return least;
    }

    public int bestRound(int n) throws IllegalArgumentException {
        demandArgument(isWithin(n, 1, GREATEST_ROUND_TRIAL));
        int best = NONE;
        int leastCredits = 0;
        // Four digits of base 4 grow as the same digits told as a decimal number do.
        for (int digits = 0; digits < STREETS * STREETS * STREETS * STREETS; digits++) {
            if (tellEachStreet(digits)) {
                trial.copyFrom(book);
                trial.takeOrder(digits);
                trial.deliver(n);
                int credits = trial.sumOf(OF_CREDIT);
                if (best == NONE || credits < leastCredits) {
                    best = trial.orderAsNumber();
                    leastCredits = credits;
                }
            }
        }
        return best;
    }

    // ---- scripts, simulations

    public int runScript(int n, long script) throws IllegalArgumentException {
        demandArgument(isWithin(n, 1, GREATEST_SCRIPT));
        long limit = 1;
        for (int i = 0; i < n; i++) {
            limit *= GROUP;
        }
        demandArgument(script >= 0 && script < limit);
        trial.copyFrom(book);
        for (int i = 0; i < n; i++) {
            if (!succeeds(groupOf(script, n - 1 - i))) {
                return i;
            }
        }
        return NONE;
    }

    public int simulate(long seed, int m) throws IllegalArgumentException {
        demandArgument(isWithin(m, 1, GREATEST_TURNS));
        trial.copyFrom(book);
        long x = seed;
        for (int turn = 0; turn < m; turn++) {
            x = x * 6364136223846793005L + 1442695040888963407L;
            takeTurn((int) (x >>> 33));
        }
        int got = trial.sumOf(OF_GOT) - book.sumOf(OF_GOT);
        return 1000 * (got % 1000) + trial.sumOf(OF_CREDIT);
    }

    // ---- save slots

    public int save(int slot) throws IndexOutOfBoundsException {
        demandPlace(isSlot(slot));
        slots[slot].copyFrom(book);
        isSaved[slot] = true;
        return book.today;
    }

    public int restore(int slot) throws IndexOutOfBoundsException, IllegalStateException {
        demandPlace(isSlot(slot));
        demandState(isSaved[slot]);
        book.copyFrom(slots[slot]);
        memory.forgetAll();
        return book.today;
    }

    // ---- what the methods above share

    private int act(int action, int x, int y, int z) {
        Refusal refusal = book.refusalOf(action, x, y, z);
        demandPlace(refusal != Refusal.NO_PLACE);
        demandArgument(refusal != Refusal.NO_ARGUMENT);
        demandState(refusal != Refusal.NO_ROOM);
        memory.keep(book);
        return book.perform(action, x, y, z);
    }

    private static boolean tellEachStreet(int digits) {
        int told = 0;
        int rest = digits;
        for (int place = 0; place < STREETS; place++) {
            told |= 1 << rest % STREETS;
            rest /= STREETS;
        }
        return told == (1 << STREETS) - 1;
    }

    private static int groupOf(long script, int groupsBehind) {
        long rest = script;
        for (int i = 0; i < groupsBehind; i++) {
            rest /= GROUP;
        }
        return (int) (rest % GROUP);
    }

    private boolean succeeds(int group) {
        int c = group / 10000 % 10;
        int w = group / 1000 % 10;
        int middle = group / 100 % 100;
        int last = group % 10;
        int lastTwo = group % 100;
        switch (group / 100000) {
            case 1:
                return c == 0 && middle == 0 && trial.perform(DELIVER, lastTwo, 0, 0) != REFUSED;
            case 2:
                return lastTwo == 0 && trial.perform(CHANGE_LOAVES, c, w, middle % 10) != REFUSED;
            case 3:
                return trial.perform(ADD_HOLIDAY, c, middle, lastTwo) != REFUSED;
            case 4:
                return group / 10 % 100 == 0 && last <= 1 && trial.perform(CLOSE_STREET, c, w, last) != REFUSED;
            case 5:
                return group % 1000 == 0 && trial.perform(SWAP_STREETS, c, w, 0) != REFUSED;
            case 6:
                return middle == 0 && trial.perform(CHANGE_SETTING, c, lastTwo, 0) != REFUSED;
            case 7:
                return middle == 0 && trial.hasCustomer(c) && trial.customers[c].credit <= lastTwo;
            case 8:
                return group / 10 % 1000 == 0 && trial.hasCustomer(c) && trial.reasonFor(c) == last;
            case 9:
                return c == 0 && trial.loavesGot() >= group % 10000;
            default:
                return false;
        }
    }

    private void takeTurn(int r) {
        int q = r / 8;
        switch (r % 8) {
            case 0:
                trial.perform(ADD_CUSTOMER, q % 4, q / 4 % 10000000, 0);
                break;
            case 1:
                trial.perform(CHANGE_LOAVES, q % 10, q / 16 % 7, q / 128 % 10);
                break;
            case 2:
                int from = trial.today + q / 16 % 20;
                trial.perform(ADD_HOLIDAY, q % 10, from, from + q / 512 % 9);
                break;
            case 3:
                trial.perform(CLOSE_STREET, q % 4, q / 4 % 7, q / 32 % 3 == 0 ? 1 : 0);
                break;
            case 4:
                trial.perform(SWAP_STREETS, q % 4, q / 4 % 4, 0);
                break;
            case 5:
                if (q / 128 % 2 == 0) {
                    trial.perform(CHANGE_SETTING, OVEN, q % 100, 0);
                } else {
                    trial.perform(CHANGE_SETTING, 1 + q % 3, q / 4 % 10, 0);
                }
                break;
            default:
                trial.perform(DELIVER, 1 + q % 9, 0, 0);
                break;
        }
    }

    private static void demandPlace(boolean isThere) {
        if (!isThere) {
            throw new IndexOutOfBoundsException("no such customer, street, weekday, place, holiday or slot");
        }
    }

    private static void demandArgument(boolean isInRange) {
        if (!isInRange) {
            throw new IllegalArgumentException("an argument is out of its range");
        }
    }

    private static void demandState(boolean isPossible) {
        if (!isPossible) {
            throw new IllegalStateException("not possible as things stand");
        }
    }

    private static boolean isWithin(int n, int least, int greatest) {
        return n >= least && n <= greatest;
    }

    private static boolean isStreet(int s) {
        return isWithin(s, 0, STREETS - 1);
    }

    private static boolean isWeekday(int w) {
        return isWithin(w, 0, WEEKDAYS - 1);
    }

    private static boolean isSetting(int what) {
        return isWithin(what, 0, SETTINGS - 1);
    }

    private static boolean isSlot(int slot) {
        return isWithin(slot, 0, SLOTS - 1);
    }

    // No day is below 0.
    private static int weekdayOf(int day) {
        return day % WEEKDAYS;
    }

    /** Why an action can not be done. */
    private enum Refusal {
        NOTHING, NO_PLACE, NO_ARGUMENT, NO_ROOM
    }

    /** A customer's orders, holidays and account. */
    private static final class Customer {
        private int street;
        private int credit;
        private int got;
        private int madeGood;
        private int paidBack;
        private int missed;
        private int shortOnes;
        private int holidays;
        private final int[] week = new int[WEEKDAYS];
        private final int[] firstDay = new int[HOLIDAYS];
        private final int[] lastDay = new int[HOLIDAYS];

        private void start(int s, int sevenDigits) {
            street = s;
            credit = 0;
            got = 0;
            madeGood = 0;
            paidBack = 0;
            missed = 0;
            shortOnes = 0;
            holidays = 0;
            int digits = sevenDigits;
            for (int w = WEEKDAYS - 1; w >= 0; w--) {
                week[w] = digits % 10;
                digits /= 10;
            }
        }

        private void copyFrom(Customer other) {
            street = other.street;
            credit = other.credit;
            got = other.got;
            madeGood = other.madeGood;
            paidBack = other.paidBack;
            missed = other.missed;
            shortOnes = other.shortOnes;
            holidays = other.holidays;
            System.arraycopy(other.week, 0, week, 0, WEEKDAYS);
            System.arraycopy(other.firstDay, 0, firstDay, 0, HOLIDAYS);
            System.arraycopy(other.lastDay, 0, lastDay, 0, HOLIDAYS);
        }

        private int numberOf(int what) {
            switch (what) {
                case OF_STREET:
                    return street;
                case OF_ALL_WEEKDAYS:
                    return loavesAWeek();
                case OF_CREDIT:
                    return credit;
                case OF_GOT:
                    return got;
                case OF_MADE_GOOD:
                    return madeGood;
                case OF_PAID_BACK:
                    return paidBack;
                case OF_MISSED:
                    return missed;
                case OF_SHORT:
                    return shortOnes;
                default:
                    return holidays;
            }
        }

        private int loavesAWeek() {
            int loaves = 0;
            for (int w = 0; w < WEEKDAYS; w++) {
                loaves += week[w];
            }
            return loaves;
        }

        private int putLoaves(int w, int n) {
            int previous = week[w];
            week[w] = n;
            return previous;
        }

        private int addHoliday(int from, int to) {
            firstDay[holidays] = from;
            lastDay[holidays] = to;
            holidays++;
            return holidays;
        }

        private int dropHoliday(int k) {
            for (int i = k; i + 1 < holidays; i++) {
                firstDay[i] = firstDay[i + 1];
                lastDay[i] = lastDay[i + 1];
            }
            holidays--;
            return holidays;
        }

        private boolean isAwayOn(int day) {
            return isInFirstHolidays(day, holidays);
        }

        private boolean isInFirstHolidays(int day, int howMany) {
            for (int k = 0; k < howMany; k++) {
                if (day >= firstDay[k] && day <= lastDay[k]) {
                    return true;
                }
            }
            return false;
        }

        private int dueOn(int day) {
            return isInFirstHolidays(day, holidays) ? 0 : week[weekdayOf(day)];
        }

        private int nextDueDay(int from) {
            for (int day = from; day <= from + GREATEST_OUTLOOK; day++) {
                if (dueOn(day) > 0) {
                    return day;
                }
            }
            return NONE;
        }

        private int dueDayByDay(int from, int length) {
            int loaves = 0;
            for (int day = from; day < from + length; day++) {
                loaves += dueOn(day);
            }
            return loaves;
        }

        private int dueByWeeks(int from, int length) {
            int weeks = length / WEEKDAYS;
            int loaves = weeks * loavesAWeek();
            for (int day = from + weeks * WEEKDAYS; day < from + length; day++) {
                loaves += week[weekdayOf(day)];
            }
            return loaves - orderedInHolidays(from, from + length - 1);
        }

        private int orderedInHolidays(int from, int to) {
            int loaves = 0;
            for (int k = 0; k < holidays; k++) {
                int last = Math.min(to, lastDay[k]);
                for (int day = Math.max(from, firstDay[k]); day <= last; day++) {
                    // A day that an earlier holiday holds has been told there.
                    if (!isInFirstHolidays(day, k)) {
                        loaves += week[weekdayOf(day)];
                    }
                }
            }
            return loaves;
        }

        private void receive(int due, int loaves) {
            got += loaves;
            credit += due - loaves;
            if (due > 0 && loaves == 0) {
                missed++;
            } else if (loaves < due) {
                shortOnes++;
            }
        }

        private void receiveForCredit(int loaves) {
            madeGood += loaves;
            credit -= loaves;
        }

        private int cutCredit(int greatest) {
            int above = Math.max(0, credit - greatest);
            credit -= above;
            paidBack += above;
            return above;
        }
    }

    /** The state: all but the text and the save slots. */
    private static final class Book {
        private int customerCount;
        private int today;
        private int baked;
        private int stale;
        private int coinsPaid;
        private int coinsPaidBack;
        private final Customer[] customers = new Customer[CUSTOMERS];
        private final boolean[] shut = new boolean[STREETS * WEEKDAYS];
        private final int[] order = new int[STREETS];
        private final int[] settings = new int[SETTINGS];
        // The customers as the van comes to them; made anew before each use, so no copy needs it.
        private final int[] visits = new int[CUSTOMERS];

        private Book() {
            for (int c = 0; c < CUSTOMERS; c++) {
                customers[c] = new Customer();
            }
            makeNew();
        }

        private void makeNew() {
            customerCount = 0;
            today = 0;
            baked = 0;
            stale = 0;
            coinsPaid = 0;
            coinsPaidBack = 0;
            for (int i = 0; i < STREETS * WEEKDAYS; i++) {
                shut[i] = false;
            }
            for (int place = 0; place < STREETS; place++) {
                order[place] = place;
            }
            System.arraycopy(FIRST_SETTING, 0, settings, 0, SETTINGS);
        }

        private void copyFrom(Book other) {
            customerCount = other.customerCount;
            today = other.today;
            baked = other.baked;
            stale = other.stale;
            coinsPaid = other.coinsPaid;
            coinsPaidBack = other.coinsPaidBack;
            for (int c = 0; c < customerCount; c++) {
                customers[c].copyFrom(other.customers[c]);
            }
            for (int i = 0; i < STREETS * WEEKDAYS; i++) {
                shut[i] = other.shut[i];
            }
            System.arraycopy(other.order, 0, order, 0, STREETS);
            System.arraycopy(other.settings, 0, settings, 0, SETTINGS);
        }

        private int numberOf(int what) {
            switch (what) {
                case 0:
                    return customerCount;
                case 1:
                    return today;
                case 2:
                    return baked;
                case 3:
                    return sumOf(OF_GOT);
                case 4:
                    return sumOf(OF_MADE_GOOD);
                case 5:
                    return stale;
                case 6:
                    return sumOf(OF_CREDIT);
                case 7:
                    return sumOf(OF_PAID_BACK);
                case 8:
                    return coinsPaid;
                case 9:
                    return coinsPaidBack;
                case 10:
                    return sumOf(OF_MISSED);
                case 11:
                    return sumOf(OF_SHORT);
                default:
                    return dueToAll();
            }
        }

        private int sumOf(int what) {
            int sum = 0;
            for (int c = 0; c < customerCount; c++) {
                sum += customers[c].numberOf(what);
            }
            return sum;
        }

        private int loavesGot() {
            return sumOf(OF_GOT) + sumOf(OF_MADE_GOOD);
        }

        private int dueToAll() {
            int loaves = 0;
            for (int c = 0; c < customerCount; c++) {
                loaves += customers[c].dueOn(today);
            }
            return loaves;
        }

        private int dueInOpenStreets(int day) {
            int loaves = 0;
            for (int c = 0; c < customerCount; c++) {
                if (!isShut(customers[c].street, weekdayOf(day))) {
                    loaves += customers[c].dueOn(day);
                }
            }
            return loaves;
        }

        private boolean hasCustomer(int c) {
            return isWithin(c, 0, customerCount - 1);
        }

        private boolean isShut(int s, int w) {
            return shut[s * WEEKDAYS + w];
        }

        // ---- actions

        private Refusal refusalOf(int action, int x, int y, int z) {
            switch (action) {
                case ADD_CUSTOMER:
                    return firstRefusal(isStreet(x), isWithin(y, 0, GREATEST_WEEK), customerCount < CUSTOMERS);
                case CHANGE_LOAVES:
                    return firstRefusal(hasCustomer(x) && isWeekday(y), isWithin(z, 0, GREATEST_LOAVES), true);
                case ADD_HOLIDAY:
                    return firstRefusal(hasCustomer(x), isWithin(y, 0, GREATEST_DAY) && isWithin(z, y, GREATEST_DAY),
                            hasCustomer(x) && customers[x].holidays < HOLIDAYS);
                case DROP_HOLIDAY:
                    return firstRefusal(hasCustomer(x) && isWithin(y, 0, customers[x].holidays - 1), true, true);
                case CLOSE_STREET:
                    return firstRefusal(isStreet(x) && isWeekday(y), true, true);
                case SWAP_STREETS:
                    return firstRefusal(isStreet(x) && isStreet(y), true, true);
                case CHANGE_SETTING:
                    return firstRefusal(true,
                            isSetting(x) && isWithin(y, LEAST_SETTING[x], GREATEST_SETTING[x]), true);
                default:
                    return firstRefusal(true, isWithin(x, 1, GREATEST_DELIVERY), true);
            }
        }

        private static Refusal firstRefusal(boolean isPlaceThere, boolean isArgumentInRange, boolean isRoomLeft) {
            if (!isPlaceThere) {
                return Refusal.NO_PLACE;
            }
            if (!isArgumentInRange) {
                return Refusal.NO_ARGUMENT;
            }
            return isRoomLeft ? Refusal.NOTHING : Refusal.NO_ROOM;
        }

        private int perform(int action, int x, int y, int z) {
            if (refusalOf(action, x, y, z) != Refusal.NOTHING) {
                return REFUSED;
            }
            switch (action) {
                case ADD_CUSTOMER:
                    return addCustomer(x, y);
                case CHANGE_LOAVES:
                    return customers[x].putLoaves(y, z);
                case ADD_HOLIDAY:
                    return customers[x].addHoliday(y, z);
                case DROP_HOLIDAY:
                    return customers[x].dropHoliday(y);
                case CLOSE_STREET:
                    return closeStreet(x, y, z == 1);
                case SWAP_STREETS:
                    return swapStreets(x, y);
                case CHANGE_SETTING:
                    return changeSetting(x, y);
                default:
                    return deliver(x);
            }
        }

        private int addCustomer(int s, int sevenDigits) {
            customers[customerCount].start(s, sevenDigits);
            customerCount++;
            return customerCount - 1;
        }

        private int closeStreet(int s, int w, boolean on) {
            shut[s * WEEKDAYS + w] = on;
            int weekdays = 0;
            for (int i = 0; i < WEEKDAYS; i++) {
                if (isShut(s, i)) {
                    weekdays++;
                }
            }
            return weekdays;
        }

        private int swapStreets(int s, int other) {
            int place = placeOf(s);
            int otherPlace = placeOf(other);
            order[place] = other;
            order[otherPlace] = s;
            return otherPlace;
        }

        private int placeOf(int s) {
            int found = 0;
            for (int place = 0; place < STREETS; place++) {
                if (order[place] == s) {
                    found = place;
                }
            }
            return found;
        }

        private void takeOrder(int digits) {
            int rest = digits;
            for (int place = STREETS - 1; place >= 0; place--) {
                order[place] = rest % STREETS;
                rest /= STREETS;
            }
        }

        private int orderAsNumber() {
            int number = 0;
            for (int place = 0; place < STREETS; place++) {
                number = number * 10 + order[place];
            }
            return number;
        }

        private int changeSetting(int what, int v) {
            int previous = settings[what];
            settings[what] = v;
            return previous;
        }

        // ---- the days' rounds

        private int deliver(int n) {
            int loaves = 0;
            planVisits();
            for (int i = 0; i < n; i++) {
                int fresh = loavesFor(dueToAll());
                int left = makeGood(handOut(fresh));
                baked += fresh;
                stale += left;
                loaves += fresh - left;
                payBack();
                today++;
            }
            return loaves;
        }

        private void planVisits() {
            int planned = 0;
            for (int place = 0; place < STREETS; place++) {
                for (int c = 0; c < customerCount; c++) {
                    if (customers[c].street == order[place]) {
                        visits[planned] = c;
                        planned++;
                    }
                }
            }
        }

        private int loavesFor(int due) {
            return Math.min(due + settings[SPARE], settings[OVEN]);
        }

        private boolean isReached(Customer customer) {
            return !isShut(customer.street, weekdayOf(today));
        }

        private int handOut(int inVan) {
            int left = inVan;
            for (int i = 0; i < customerCount; i++) {
                Customer customer = customers[visits[i]];
                int due = customer.dueOn(today);
                int loaves = isReached(customer) ? Math.min(due, left) : 0;
                coinsPaid += due * settings[PRICE];
                customer.receive(due, loaves);
                left -= loaves;
            }
            return left;
        }

        private int makeGood(int inVan) {
            int left = inVan;
            for (int i = 0; i < customerCount; i++) {
                Customer customer = customers[visits[i]];
                if (isReached(customer) && !customer.isAwayOn(today)) {
                    int loaves = Math.min(left, Math.min(customer.credit, settings[MADE_GOOD_A_DAY]));
                    customer.receiveForCredit(loaves);
                    left -= loaves;
                }
            }
            return left;
        }

        private void payBack() {
            for (int c = 0; c < customerCount; c++) {
                coinsPaidBack += customers[c].cutCredit(settings[GREATEST_CREDIT]) * settings[PRICE];
            }
        }

        private int reasonFor(int c) {
            Customer customer = customers[c];
            if (customer.week[weekdayOf(today)] == 0) {
                return 1;
            }
            if (customer.isAwayOn(today)) {
                return 2;
            }
            if (!isReached(customer)) {
                return 3;
            }
            int left = leftBefore(c);
            if (left == 0) {
                return 4;
            }
            return left < customer.dueOn(today) ? 5 : 0;
        }

        private int leftBefore(int c) {
            planVisits();
            int left = loavesFor(dueToAll());
            for (int i = 0; i < customerCount && visits[i] != c; i++) {
                Customer customer = customers[visits[i]];
                if (isReached(customer)) {
                    left -= Math.min(left, customer.dueOn(today));
                }
            }
            return left;
        }
    }

    /** The states before the last actions, in a ring of rows that are used again. */
    private static final class Memory {
        private final Book[] states = new Book[REMEMBERED];
        private int count;
        private int next;

        private Memory() {
            for (int i = 0; i < REMEMBERED; i++) {
                states[i] = new Book();
            }
        }

        private void forgetAll() {
            count = 0;
            next = 0;
        }

        private void keep(Book book) {
            states[next].copyFrom(book);
            next = (next + 1) % REMEMBERED;
            count = Math.min(count + 1, REMEMBERED);
        }

        private int takeBack(Book book) {
            next = (next + REMEMBERED - 1) % REMEMBERED;
            book.copyFrom(states[next]);
            count--;
            return count;
        }
    }

    /** The text buffer, and the commands that it tells. */
    private static final class Text {
        private final char[] signs = new char[TEXT_LENGTH];
        private int length;

        private int add(char sign) {
            signs[length] = sign;
            length++;
            return length;
        }

        private int empty() {
            int previous = length;
            length = 0;
            return previous;
        }

        // Behind the end stands a sign that no rule allows.
        private char signAt(int place) {
            return place >= 0 && place < length ? signs[place] : (char) 0;
        }

        /**
         * What stands behind a command's letter, a sign for each place: a digit is the greatest one
         * allowed there, + is + or -, and d is the second digit of how many days are delivered.
         */
        private static String formOf(char letter) {
            switch (letter) {
                case 'c':
                    return "39999999";
                case 'n':
                    return "969";
                case 'h':
                    return "99999";
                case 'x':
                    return "36+";
                case 'v':
                    return "33";
                case 's':
                    return "499";
                case 'd':
                    return "6d";
                default:
                    return "";
            }
        }

        private int formLength(int at) {
            return formOf(signAt(at)).length();
        }

        private int firstError() {
            if (signAt(0) != 'B') {
                return 0;
            }
            for (int at = 1; at < length; at += 1 + formLength(at)) {
                String form = formOf(signAt(at));
                if (form.isEmpty()) {
                    return at;
                }
                for (int i = 0; i < form.length(); i++) {
                    if (!isAllowed(form.charAt(i), at + 1 + i)) {
                        return at + 1 + i;
                    }
                }
            }
            return NONE;
        }

        private boolean isAllowed(char kind, int place) {
            char sign = signAt(place);
            if (kind == '+') {
                return sign == '+' || sign == '-';
            }
            if (kind == 'd') {
                char tens = signAt(place - 1);
                return sign >= (tens == '0' ? '1' : '0') && sign <= (tens == '6' ? '0' : '9');
            }
            return sign >= '0' && sign <= kind;
        }

        private int numberAt(int place, int digits) {
            int number = 0;
            for (int i = 0; i < digits; i++) {
                number = number * 10 + signAt(place + i) - '0';
            }
            return number;
        }

        private int doCommand(int at, Book book) {
            int first = numberAt(at + 1, 1);
            switch (signAt(at)) {
                case 'c':
                    return book.perform(ADD_CUSTOMER, first, numberAt(at + 2, WEEKDAYS), 0);
                case 'n':
                    return book.perform(CHANGE_LOAVES, first, numberAt(at + 2, 1), numberAt(at + 3, 1));
                case 'h':
                    return book.perform(ADD_HOLIDAY, first, numberAt(at + 2, 2), numberAt(at + 4, 2));
                case 'x':
                    return book.perform(CLOSE_STREET, first, numberAt(at + 2, 1), signAt(at + 3) == '+' ? 1 : 0);
                case 'v':
                    return book.perform(SWAP_STREETS, first, numberAt(at + 2, 1), 0);
                case 's':
                    return book.perform(CHANGE_SETTING, first, numberAt(at + 2, 2), 0);
                default:
                    return book.perform(DELIVER, numberAt(at + 1, 2), 0, 0);
            }
        }
    }
}
