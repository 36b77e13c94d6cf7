/**
 * Bills for subscriptions, cut day by day so that each way of cutting comes to the same cents.
 *
 * <p>The face checks what is asked and hands it on: Biller holds what is kept and undone, BookText and
 * DeedText read what stands on the tape. All rows are made once, in the constructors, and used again.
 */
public final class SlicedBills {
    public static final int NONE = -1;

    // A difference of cents may be any small number below 0, so what refuses it lies behind them all.
    private static final int REFUSED = -1000000;
    private static final int NO_ROOM = -1000001;
    private static final int TOO_FAR = -1000002;

    private static final int LAST_DAY = 3652;
    private static final int PLANS = 6;
    private static final int ACCOUNTS = 6;
    private static final int MOST_ENTRIES = 400;
    private static final int MOST_UNITS = 9999;
    private static final int MOST_DAYS = 400;
    private static final int MOST_PAID = 99999999;
    private static final int TAPE = 400;
    private static final int TEXT = 200;

    private static final int CHARGE = 0;
    private static final int CREDIT = 1;
    private static final int USAGE = 2;
    private static final int FAVOUR = 3;
    private static final int TURNED = 4;
    private static final int FEE = 5;

    private final byte[] tape = new byte[TAPE];
    private int onTape;
    private final Calendar calendar = new Calendar();
    private final Biller now = new Biller(calendar);
    private final Biller kept = new Biller(calendar);
    private final Biller trial = new Biller(calendar);
    private boolean isKept;
    private final BookText bookText = new BookText(tape);
    private final DeedText deedText = new DeedText(tape);
    private final LineText lineText = new LineText(calendar);

    public SlicedBills() {
    }

    // ---- the tape, THE BOOK, the deeds ----

    public int feed(int a, int b, int c, int d, int e) {
        if (onTape + 20 > TAPE) {
            return NONE;
        }
        putOnTape(a);
        putOnTape(b);
        putOnTape(c);
        putOnTape(d);
        putOnTape(e);
        return onTape;
    }

    private void putOnTape(int four) {
        for (int shift = 24; shift >= 0; shift -= 8) {
            if (onTape >= 0 && onTape < tape.length) {
                tape[onTape] = (byte) (four >> shift);
                onTape++;
            }
        }
    }

    private boolean hasText(int n) {
        return n >= 1 && n <= TEXT && n <= onTape;
    }

    public int book(int n) {
        if (!hasText(n)) {
            return NONE;
        }
        onTape = 0;
        if (now.entries.size > 0) {
            return -3;
        }
        int fault = bookText.read(n);
        if (fault != 0) {
            return fault;
        }
        now.tariff.copyFrom(bookText.draft);
        return now.tariff.clauses;
    }

    public int deeds(int n) {
        if (!hasText(n)) {
            return NONE;
        }
        onTape = 0;
        int fault = deedText.read(n);
        if (fault != 0) {
            return fault;
        }
        int done = 0;
        while (done < deedText.steps && deedText.isDone(done, now)) {
            done++;
        }
        return done;
    }

    public int tried(int n, int account) {
        if (!isAccount(account) || !hasText(n)) {
            return NONE;
        }
        onTape = 0;
        int fault = deedText.read(n);
        if (fault != 0) {
            return fault;
        }
        trial.copyFrom(now);
        int done = 0;
        while (done < deedText.steps && deedText.isDone(done, trial)) {
            done++;
        }
        return trial.hasBegun(account) ? trial.accounts[account].all : REFUSED;
    }

    public int check(int n) {
        if (n < 0 || n > TAPE || n > onTape) {
            return -2;
        }
        onTape = 0;
        for (int i = 0; i < n && i < tape.length; i++) {
            if (!now.entries.has(i) || (now.entries.cents[i] & 255) != (tape[i] & 255)) {
                return i;
            }
        }
        return NONE;
    }

    public int keep() {
        kept.copyFrom(now);
        isKept = true;
        return now.entries.size;
    }

    public boolean undo() {
        if (!isKept) {
            return false;
        }
        now.copyFrom(kept);
        return true;
    }

    public int count(int what) {
        switch (what) {
            case 0: return now.entries.size;
            case 1: return now.today;
            case 2: return onTape;
            case 3: return now.tariff.clauses;
            default: return NONE;
        }
    }

    // ---- what is done with accounts ----

    public int begin(int account, int plan, int anchor) {
        return now.startAccount(account, plan, anchor);
    }

    public int change(int account, int plan) {
        return now.putPlan(account, plan);
    }

    public int seats(int account, int seats) {
        return now.putSeats(account, seats);
    }

    public int pause(int account, boolean is) {
        return now.putPaused(account, is);
    }

    public int giveUp(int account) {
        return now.endAccount(account);
    }

    public int move(int account, int anchor) {
        return now.putAnchor(account, anchor);
    }

    public int use(int account, int units) {
        return now.addUnits(account, units);
    }

    public int days(int n) {
        return now.passDays(n);
    }

    public int favour(int account, int cents) {
        return now.grantFavour(account, cents);
    }

    public int pay(int account, int cents) {
        return now.takePayment(account, cents);
    }

    public int remind(int account) {
        return now.writeReminder(account);
    }

    public int turn(int entry) {
        return now.turnRound(entry);
    }

    // ---- what is asked of accounts ----

    public int accountIs(int account, int what) {
        if (!now.hasBegun(account)) {
            return REFUSED;
        }
        Account a = now.accounts[account];
        if (what >= 12 && what <= 17) {
            return now.entries.sumOfKind(account, what - 12);
        }
        switch (what) {
            case 6: return now.tariff.worth(a.plan, a);
            case 11: return now.entries.howManyOf(account);
            default: return a.tell(what);
        }
    }

    public int late(int account, int day) {
        if (!now.hasBegun(account) || day < now.today || day > LAST_DAY) {
            return REFUSED;
        }
        return now.entries.sumLate(account, now.accounts[account].paid, day);
    }

    public int owes(int account, int what) {
        if (!now.hasBegun(account) || what < 0 || what > 3) {
            return NONE;
        }
        return now.entries.tellOpen(account, now.accounts[account].paid, what);
    }

    public int earned(int account, int day) {
        if (!now.hasBegun(account) || day < 0 || day > LAST_DAY + 1) {
            return REFUSED;
        }
        return now.entries.sumEarned(account, day);
    }

    public int period(int account, int number) {
        if (!now.hasBegun(account) || number < 0 || number > 199) {
            return REFUSED;
        }
        return now.entries.sumOfPeriod(account, number);
    }

    public int taxes(int account, int rate) {
        if (!now.hasBegun(account) || rate < 0 || rate > 100) {
            return REFUSED;
        }
        return now.taxesOf(account, rate);
    }

    public int quote(int account, int plan, int day) {
        if (!now.isRunning(account) || !isPlan(plan)) {
            return REFUSED;
        }
        Account a = now.accounts[account];
        if (day < now.today || day >= a.end) {
            return REFUSED;
        }
        return now.quoteOn(a, plan, day);
    }

    public int best(int account, int plan, int what) {
        if (!now.isRunning(account) || !isPlan(plan)) {
            return REFUSED;
        }
        Account a = now.accounts[account];
        switch (what) {
            case 0: return now.cheapestDay(a, plan);
            case 1: return now.quoteOn(a, plan, now.cheapestDay(a, plan));
            case 2: return now.cheapestChange(a);
            default: return REFUSED;
        }
    }

    public int ahead(int account, int days) {
        if (!now.hasBegun(account) || days < 0 || days > MOST_DAYS) {
            return REFUSED;
        }
        trial.copyFrom(now);
        if (days > 0) {
            trial.passDays(days);
        }
        return trial.accounts[account].all;
    }

    public int when(int account, int cents) {
        if (!now.hasBegun(account)) {
            return NONE;
        }
        trial.copyFrom(now);
        for (int behind = 0; behind <= MOST_DAYS; behind++) {
            if (trial.accounts[account].all >= cents) {
                return behind;
            }
            if (behind == MOST_DAYS || !trial.canPassDay()) {
                return -2;
            }
            trial.passDay();
        }
        return -2;
    }

    // ---- what is asked of ENTRIES ----

    public int tax(int entry) {
        return now.taxOf(entry);
    }

    public int open(int entry) {
        if (!now.entries.has(entry)) {
            return REFUSED;
        }
        int owner = now.entries.owners[entry];
        return isAccount(owner) ? now.entries.openOf(entry, now.accounts[owner].paid) : REFUSED;
    }

    public int written(int from, int to) {
        if (from < 0 || to < from || to > LAST_DAY) {
            return REFUSED;
        }
        return now.entries.sumWritten(from, to);
    }

    public int entry(int i, int what) {
        return now.entries.tell(i, what);
    }

    public int line(int entry, int i) {
        if (!now.entries.has(entry)) {
            return NONE;
        }
        if (i < NONE) {
            return -9;
        }
        lineText.write(now.entries, entry);
        return i == NONE ? lineText.length : lineText.byteAt(i);
    }

    // ---- what is asked of THE BOOK ----

    public int plan(int plan, int what) {
        return isPlan(plan) ? now.tariff.termsOf(plan).tell(what) : NONE;
    }

    public int billIs(int what) {
        switch (what) {
            case 2: return now.today;
            case 3: return now.entries.size;
            case 4: return now.begunBits();
            case 5: return now.endedBits();
            case 6: return now.pausedBits();
            default: return now.tariff.tell(what);
        }
    }

    public int usage(int plan, int units) {
        return isPlan(plan) && areUnits(units) ? now.tariff.termsOf(plan).usageOf(units) : NONE;
    }

    public int units(int plan, int cents) {
        if (!isPlan(plan) || cents < 0 || cents > 99999999) {
            return NONE;
        }
        return now.tariff.termsOf(plan).mostUnits(cents);
    }

    public int cheapest(int units) {
        return areUnits(units) ? now.tariff.cheapestPlan(units) : NONE;
    }

    // ---- what is asked of days ----

    public int part(int price, int anchor, int from, int to) {
        if (price < 0 || price > 999999 || !isAnchor(anchor) || !isDay(from) || !isDay(to) || to < from) {
            return NONE;
        }
        int first = calendar.lastTurn(anchor, from);
        int end = calendar.nextTurn(anchor, from);
        return to > end ? NONE : Calendar.slice(price, end - first, from - first, to - first);
    }

    public int span(int anchor, int day, int what) {
        if (!isAnchor(anchor) || !isDay(day)) {
            return NONE;
        }
        int first = calendar.lastTurn(anchor, day);
        int end = calendar.nextTurn(anchor, day);
        switch (what) {
            case 0: return first < 0 ? -2 : first;
            case 1: return end;
            case 2: return end - first;
            default: return NONE;
        }
    }

    public int date(int day, int what) {
        if (!isDay(day)) {
            return NONE;
        }
        switch (what) {
            case 0: return calendar.yearOf(day);
            case 1: return calendar.monthOf(day);
            case 2: return calendar.dayOfMonth(day);
            default: return NONE;
        }
    }

    public int day(int year, int month, int day) {
        return calendar.dayOf(year, month, day);
    }

    // ---- what there is ----

    private static boolean isAccount(int account) {
        return account >= 0 && account < ACCOUNTS;
    }

    private static boolean isPlan(int plan) {
        return plan >= 0 && plan < PLANS;
    }

    private static boolean isAnchor(int anchor) {
        return anchor >= 1 && anchor <= 31;
    }

    private static boolean isDay(int day) {
        return day >= 0 && day <= LAST_DAY;
    }

    private static boolean areUnits(int units) {
        return units >= 0 && units <= MOST_UNITS;
    }

    /** The months from December 2023 (month 0) to January 2034, by the DAY on which each begins. */
    private static final class Calendar {
        private static final int MONTHS = 122;

        // One more than there are months: where the last one ends.
        private final int[] starts = new int[MONTHS + 1];

        Calendar() {
            int start = -31;
            for (int month = 0; month < starts.length; month++) {
                starts[month] = start;
                start += lengthOf(month);
            }
        }

        private static int lengthOf(int month) {
            switch ((month + 11) % 12) {
                case 1: return (month + 11) / 12 % 4 == 1 ? 29 : 28;
                case 3: case 5: case 8: case 10: return 30;
                default: return 31;
            }
        }

        private int monthWith(int day) {
            // No month is longer than 31 days, so that this one does not begin behind the day.
            int month = Math.max(0, day / 31 + 1);
            while (month + 2 < starts.length && starts[month + 1] <= day) {
                month++;
            }
            return Math.min(month, MONTHS - 1);
        }

        private int turnIn(int anchor, int month) {
            if (month < 0 || month + 1 >= starts.length) {
                return 0;
            }
            return starts[month] + Math.min(anchor, starts[month + 1] - starts[month]) - 1;
        }

        int lastTurn(int anchor, int day) {
            int month = monthWith(day);
            int turn = turnIn(anchor, month);
            return turn <= day ? turn : turnIn(anchor, month - 1);
        }

        int nextTurn(int anchor, int day) {
            int month = monthWith(day);
            int turn = turnIn(anchor, month);
            return turn > day ? turn : turnIn(anchor, month + 1);
        }

        int yearOf(int day) {
            return 2023 + (monthWith(day) + 11) / 12;
        }

        int monthOf(int day) {
            return (monthWith(day) + 11) % 12 + 1;
        }

        int dayOfMonth(int day) {
            return day - starts[monthWith(day)] + 1;
        }

        int dayOf(int year, int month, int day) {
            if (year < 2024 || year > 2033 || month < 1 || month > 12 || day < 1) {
                return NONE;
            }
            int index = (year - 2024) * 12 + month;
            if (index + 1 >= starts.length || day > starts[index + 1] - starts[index]) {
                return NONE;
            }
            return starts[index] + day - 1;
        }

        /** PART of a price: from and to are days behind the first one of a SPAN of this length. */
        static int slice(int price, int length, int from, int to) {
            return length < 1 ? 0 : price * to / length - price * from / length;
        }
    }

    /** What a PLAN costs. */
    private static final class PlanTerms {
        private static final int MOST_TIERS = 4;
        private static final int MOST_BULKS = 3;

        private int price;
        private int free;
        private int tiers;
        private final int[] bounds = new int[MOST_TIERS];
        private final int[] tierCents = new int[MOST_TIERS];
        private int rest;
        private boolean whole;
        private int paused;
        private int bulks;
        private final int[] bulkSeats = new int[MOST_BULKS];
        private final int[] bulkOff = new int[MOST_BULKS];

        void clear() {
            price = 0;
            free = 0;
            tiers = 0;
            rest = 0;
            whole = false;
            paused = 0;
            bulks = 0;
        }

        void copyFrom(PlanTerms other) {
            price = other.price;
            free = other.free;
            tiers = other.tiers;
            System.arraycopy(other.bounds, 0, bounds, 0, MOST_TIERS);
            System.arraycopy(other.tierCents, 0, tierCents, 0, MOST_TIERS);
            rest = other.rest;
            whole = other.whole;
            paused = other.paused;
            bulks = other.bulks;
            System.arraycopy(other.bulkSeats, 0, bulkSeats, 0, MOST_BULKS);
            System.arraycopy(other.bulkOff, 0, bulkOff, 0, MOST_BULKS);
        }

        boolean isAboveBounds(int bound) {
            return tiers < 1 || tiers > MOST_TIERS || bound > bounds[tiers - 1];
        }

        void addTier(int bound, int cents) {
            if (tiers >= 0 && tiers < MOST_TIERS) {
                bounds[tiers] = bound;
                tierCents[tiers] = cents;
                tiers++;
            }
        }

        boolean isAboveBulks(int seats) {
            return bulks < 1 || bulks > MOST_BULKS || seats > bulkSeats[bulks - 1];
        }

        void addBulk(int seats, int off) {
            if (bulks >= 0 && bulks < MOST_BULKS) {
                bulkSeats[bulks] = seats;
                bulkOff[bulks] = off;
                bulks++;
            }
        }

        int usageOf(int units) {
            int counted = Math.max(0, units - free);
            return whole ? wholeUsage(counted) : addedUsage(counted);
        }

        private int wholeUsage(int counted) {
            for (int i = 0; i < tiers && i < MOST_TIERS; i++) {
                if (bounds[i] >= counted) {
                    return counted * tierCents[i];
                }
            }
            return counted * rest;
        }

        private int addedUsage(int counted) {
            int cents = 0;
            int below = 0;
            for (int i = 0; i < tiers && i < MOST_TIERS; i++) {
                int upTo = Math.min(counted, bounds[i]);
                cents += (upTo - below) * tierCents[i];
                below = upTo;
            }
            return cents + (counted - below) * rest;
        }

        int mostUnits(int cents) {
            int counted = whole ? mostWhole(cents) : mostAdded(cents);
            return Math.min(MOST_UNITS, free + counted);
        }

        // Inside a tier more units cost more, so the first that cost too much are found tier by tier.
        private int mostWhole(int cents) {
            int below = 0;
            for (int i = 0; i < tiers && i < MOST_TIERS; i++) {
                if (tierCents[i] > 0 && bounds[i] * tierCents[i] > cents) {
                    return Math.max(below, cents / tierCents[i]);
                }
                below = bounds[i];
            }
            return rest > 0 ? Math.max(below, cents / rest) : MOST_UNITS;
        }

        private int mostAdded(int cents) {
            int below = 0;
            int left = cents;
            for (int i = 0; i < tiers && i < MOST_TIERS; i++) {
                int full = (bounds[i] - below) * tierCents[i];
                if (tierCents[i] > 0 && full > left) {
                    return below + left / tierCents[i];
                }
                left -= full;
                below = bounds[i];
            }
            return rest > 0 ? below + left / rest : MOST_UNITS;
        }

        int priceOf(int seats) {
            int off = 0;
            for (int i = 0; i < bulks && i < MOST_BULKS; i++) {
                if (bulkSeats[i] <= seats) {
                    off = bulkOff[i];
                }
            }
            int cents = price * seats;
            return cents - cents * off / 100;
        }

        int tell(int what) {
            switch (what) {
                case 0: return price;
                case 1: return free;
                case 2: return tiers;
                case 3: return rest;
                case 4: return whole ? 1 : 0;
                case 5: return paused;
                case 10: case 11: case 12: case 13: return tellOf(bounds, tiers, what - 10);
                case 20: case 21: case 22: case 23: return tellOf(tierCents, tiers, what - 20);
                case 30: case 31: case 32: return tellOf(bulkSeats, bulks, what - 30);
                case 40: case 41: case 42: return tellOf(bulkOff, bulks, what - 40);
                default: return NONE;
            }
        }
    }

    private static int tellOf(int[] row, int filled, int i) {
        return i >= 0 && i < filled && i < row.length ? row[i] : -2;
    }

    /** THE BOOK, as it counts. */
    private static final class Tariff {
        private static final int MOST_TAXES = 4;

        private final PlanTerms[] plans = new PlanTerms[PLANS];
        private int less;
        private int lessPeriods;
        private int fee;
        private int taxes;
        private final int[] taxDays = new int[MOST_TAXES];
        private final int[] taxRates = new int[MOST_TAXES];
        private int clauses;

        Tariff() {
            for (int i = 0; i < PLANS; i++) {
                plans[i] = new PlanTerms();
            }
        }

        void clear() {
            for (int i = 0; i < PLANS; i++) {
                plans[i].clear();
            }
            less = 0;
            lessPeriods = 0;
            fee = 0;
            taxes = 0;
            clauses = 0;
        }

        void copyFrom(Tariff other) {
            for (int i = 0; i < PLANS; i++) {
                plans[i].copyFrom(other.plans[i]);
            }
            less = other.less;
            lessPeriods = other.lessPeriods;
            fee = other.fee;
            taxes = other.taxes;
            System.arraycopy(other.taxDays, 0, taxDays, 0, MOST_TAXES);
            System.arraycopy(other.taxRates, 0, taxRates, 0, MOST_TAXES);
            clauses = other.clauses;
        }

        PlanTerms termsOf(int plan) {
            return plan >= 0 && plan < PLANS ? plans[plan] : plans[0];
        }

        boolean isAboveTaxes(int day) {
            return taxes < 1 || taxes > MOST_TAXES || day > taxDays[taxes - 1];
        }

        void addTax(int day, int rate) {
            if (taxes >= 0 && taxes < MOST_TAXES) {
                taxDays[taxes] = day;
                taxRates[taxes] = rate;
                taxes++;
            }
        }

        int rateOn(int day) {
            int rate = 0;
            for (int i = 0; i < taxes && i < MOST_TAXES; i++) {
                if (taxDays[i] <= day) {
                    rate = taxRates[i];
                }
            }
            return rate;
        }

        int worth(int plan, Account a) {
            PlanTerms terms = termsOf(plan);
            int cents = terms.priceOf(a.seats);
            if (a.number < lessPeriods) {
                cents -= cents * less / 100;
            }
            return a.paused ? cents * terms.paused / 100 : cents;
        }

        int cheapestPlan(int units) {
            int best = 0;
            int least = 0;
            for (int i = 0; i < PLANS; i++) {
                int cents = plans[i].price + plans[i].usageOf(units);
                if (i == 0 || cents < least) {
                    best = i;
                    least = cents;
                }
            }
            return best;
        }

        int tell(int what) {
            switch (what) {
                case 0: return less;
                case 1: return lessPeriods;
                case 7: return fee;
                case 10: case 11: case 12: case 13: return tellOf(taxDays, taxes, what - 10);
                case 20: case 21: case 22: case 23: return tellOf(taxRates, taxes, what - 20);
                default: return NONE;
            }
        }
    }

    /** An account, and the PERIOD in which it is. */
    private static final class Account {
        private final int index;
        private boolean begun;
        private boolean ended;
        private boolean paused;
        private int plan;
        private int anchor;
        private int seats;
        private int number;
        private int first;
        private int end;
        private int spanFirst;
        private int units;
        private int paid;
        // ALL of its cents, carried on with each ENTRY.
        private int all;

        Account(int index) {
            this.index = index;
        }

        void copyFrom(Account other) {
            begun = other.begun;
            ended = other.ended;
            paused = other.paused;
            plan = other.plan;
            anchor = other.anchor;
            seats = other.seats;
            number = other.number;
            first = other.first;
            end = other.end;
            spanFirst = other.spanFirst;
            units = other.units;
            paid = other.paid;
            all = other.all;
        }

        /** PART of a price from a day of the PERIOD to the PERIOD's end. */
        int partToEnd(int price, int from) {
            return Calendar.slice(price, end - spanFirst, from - spanFirst, end - spanFirst);
        }

        int tell(int what) {
            switch (what) {
                case 0: return plan;
                case 1: return anchor;
                case 2: return number;
                case 3: return first;
                case 4: return end;
                case 5: return end - spanFirst;
                case 7: return units;
                case 8: return all;
                case 9: return paused ? 1 : 0;
                case 10: return ended ? 1 : 0;
                case 18: return paid;
                case 19: return seats;
                default: return REFUSED;
            }
        }
    }

    /** The ENTRIES, a row for each thing that they have. */
    private static final class Entries {
        private static final int DUE_BEHIND = 14;

        private int size;
        private final int[] kinds = new int[MOST_ENTRIES];
        private final int[] owners = new int[MOST_ENTRIES];
        private final int[] writtenOn = new int[MOST_ENTRIES];
        private final int[] numbers = new int[MOST_ENTRIES];
        private final int[] firsts = new int[MOST_ENTRIES];
        private final int[] ends = new int[MOST_ENTRIES];
        private final int[] plans = new int[MOST_ENTRIES];
        private final int[] cents = new int[MOST_ENTRIES];
        private final int[] turns = new int[MOST_ENTRIES];
        private final int[] turnedBy = new int[MOST_ENTRIES];

        void copyFrom(Entries other) {
            size = Math.max(0, Math.min(other.size, MOST_ENTRIES));
            System.arraycopy(other.kinds, 0, kinds, 0, size);
            System.arraycopy(other.owners, 0, owners, 0, size);
            System.arraycopy(other.writtenOn, 0, writtenOn, 0, size);
            System.arraycopy(other.numbers, 0, numbers, 0, size);
            System.arraycopy(other.firsts, 0, firsts, 0, size);
            System.arraycopy(other.ends, 0, ends, 0, size);
            System.arraycopy(other.plans, 0, plans, 0, size);
            System.arraycopy(other.cents, 0, cents, 0, size);
            System.arraycopy(other.turns, 0, turns, 0, size);
            System.arraycopy(other.turnedBy, 0, turnedBy, 0, size);
        }

        boolean has(int i) {
            return i >= 0 && i < size && i < MOST_ENTRIES;
        }

        boolean haveRoom(int more) {
            return size + more <= MOST_ENTRIES;
        }

        int add(int kind, int owner, int day, int amount) {
            int i = size;
            if (i < 0 || i >= MOST_ENTRIES) {
                return NONE;
            }
            kinds[i] = kind;
            owners[i] = owner;
            writtenOn[i] = day;
            cents[i] = amount;
            turns[i] = -2;
            turnedBy[i] = -2;
            size++;
            return i;
        }

        void describe(int i, int number, int plan, int from, int to) {
            if (i >= 0 && i < MOST_ENTRIES) {
                numbers[i] = number;
                plans[i] = plan;
                firsts[i] = from;
                ends[i] = to;
            }
        }

        void link(int turning, int turned) {
            if (has(turning) && has(turned)) {
                turns[turning] = turned;
                turnedBy[turned] = turning;
            }
        }

        private boolean isOf(int i, int owner) {
            return i >= 0 && i < size && i < MOST_ENTRIES && owners[i] == owner;
        }

        int howManyOf(int owner) {
            int many = 0;
            for (int i = 0; i < size; i++) {
                if (isOf(i, owner)) {
                    many++;
                }
            }
            return many;
        }

        int sumOfKind(int owner, int kind) {
            int sum = 0;
            for (int i = 0; i < size; i++) {
                if (isOf(i, owner) && kinds[i] == kind) {
                    sum += cents[i];
                }
            }
            return sum;
        }

        int sumOfPeriod(int owner, int number) {
            int sum = 0;
            for (int i = 0; i < size; i++) {
                if (isOf(i, owner) && numbers[i] == number) {
                    sum += cents[i];
                }
            }
            return sum;
        }

        int sumWritten(int from, int to) {
            int sum = 0;
            for (int i = 0; i < size && i < MOST_ENTRIES; i++) {
                if (writtenOn[i] >= from && writtenOn[i] <= to) {
                    sum += cents[i];
                }
            }
            return sum;
        }

        boolean haveFeeOn(int owner, int day) {
            for (int i = 0; i < size; i++) {
                if (isOf(i, owner) && kinds[i] == FEE && writtenOn[i] == day) {
                    return true;
                }
            }
            return false;
        }

        /** What there is to COVER with: what was paid, and all below 0. */
        private int coverOf(int owner, int paid) {
            int cover = paid;
            for (int i = 0; i < size; i++) {
                if (isOf(i, owner) && cents[i] < 0) {
                    cover -= cents[i];
                }
            }
            return cover;
        }

        int openOf(int entry, int paid) {
            if (!has(entry) || cents[entry] <= 0) {
                return 0;
            }
            int left = coverOf(owners[entry], paid);
            for (int i = 0; i < entry; i++) {
                if (isOf(i, owners[entry]) && cents[i] > 0) {
                    left -= Math.min(left, cents[i]);
                }
            }
            return cents[entry] - Math.min(left, cents[entry]);
        }

        int sumLate(int owner, int paid, int day) {
            int left = coverOf(owner, paid);
            int late = 0;
            for (int i = 0; i < size; i++) {
                if (isOf(i, owner) && cents[i] > 0) {
                    int covered = Math.min(left, cents[i]);
                    left -= covered;
                    if (writtenOn[i] + DUE_BEHIND < day) {
                        late += cents[i] - covered;
                    }
                }
            }
            return late;
        }

        int tellOpen(int owner, int paid, int what) {
            int left = coverOf(owner, paid);
            int many = 0;
            int first = -2;
            int sum = 0;
            for (int i = 0; i < size; i++) {
                if (isOf(i, owner) && cents[i] > 0) {
                    int covered = Math.min(left, cents[i]);
                    left -= covered;
                    if (covered < cents[i]) {
                        first = many == 0 ? i : first;
                        many++;
                        sum += cents[i] - covered;
                    }
                }
            }
            switch (what) {
                case 0: return many;
                case 1: return first;
                case 2: return sum;
                default: return left;
            }
        }

        int sumEarned(int owner, int day) {
            int sum = 0;
            for (int i = 0; i < size; i++) {
                if (isOf(i, owner)) {
                    sum += earnedOf(i, day);
                }
            }
            return sum;
        }

        private int earnedOf(int i, int day) {
            if (!has(i)) {
                return 0;
            }
            int length = ends[i] - firsts[i];
            if (kinds[i] > CREDIT || length < 1) {
                return writtenOn[i] < day ? cents[i] : 0;
            }
            int gone = Math.max(0, Math.min(length, day - firsts[i]));
            return cents[i] * gone / length;
        }

        int tell(int i, int what) {
            if (!has(i)) {
                return REFUSED;
            }
            switch (what) {
                case 0: return kinds[i];
                case 1: return owners[i];
                case 2: return writtenOn[i];
                case 3: return numbers[i];
                case 4: return firsts[i];
                case 5: return ends[i];
                case 6: return plans[i];
                case 7: return cents[i];
                case 8: return turns[i];
                case 9: return turnedBy[i];
                default: return REFUSED;
            }
        }
    }

    /** All that is KEPT: THE BOOK, the accounts, the ENTRIES, TODAY, and what is done with them. */
    private static final class Biller {
        private final Calendar calendar;
        private final Tariff tariff = new Tariff();
        private final Account[] accounts = new Account[ACCOUNTS];
        private final Entries entries = new Entries();
        private int today;

        Biller(Calendar calendar) {
            this.calendar = calendar;
            for (int i = 0; i < ACCOUNTS; i++) {
                accounts[i] = new Account(i);
            }
        }

        void copyFrom(Biller other) {
            tariff.copyFrom(other.tariff);
            for (int i = 0; i < ACCOUNTS; i++) {
                accounts[i].copyFrom(other.accounts[i]);
            }
            entries.copyFrom(other.entries);
            today = other.today;
        }

        boolean hasBegun(int account) {
            return isAccount(account) && accounts[account].begun;
        }

        boolean isRunning(int account) {
            return hasBegun(account) && !accounts[account].ended;
        }

        // ---- ENTRIES that deeds write ----

        private int write(Account a, int kind, int from, int to, int cents) {
            int i = entries.add(kind, a.index, today, cents);
            entries.describe(i, a.number, a.plan, from, to);
            a.all += cents;
            return cents;
        }

        private int writeCredit(Account a) {
            return write(a, CREDIT, today, a.end, -a.partToEnd(tariff.worth(a.plan, a), today));
        }

        private int writeCharge(Account a) {
            return write(a, CHARGE, today, a.end, a.partToEnd(tariff.worth(a.plan, a), today));
        }

        private int writeUsage(Account a) {
            int cents = tariff.termsOf(a.plan).usageOf(a.units);
            a.units = 0;
            return write(a, USAGE, a.first, today, cents);
        }

        private void startPeriod(Account a, int number) {
            a.number = number;
            a.first = today;
            a.spanFirst = calendar.lastTurn(a.anchor, today);
            a.end = calendar.nextTurn(a.anchor, today);
        }

        // ---- the deeds ----

        int startAccount(int account, int plan, int anchor) {
            if (!isAccount(account) || !isPlan(plan) || !isAnchor(anchor)) {
                return NONE;
            }
            if (!entries.haveRoom(1)) {
                return -3;
            }
            Account a = accounts[account];
            if (a.begun) {
                return -4;
            }
            if (calendar.nextTurn(anchor, today) > LAST_DAY) {
                return -5;
            }
            a.begun = true;
            a.plan = plan;
            a.anchor = anchor;
            a.seats = 1;
            startPeriod(a, 0);
            return writeCharge(a);
        }

        int putPlan(int account, int plan) {
            if (!isRunning(account) || !isPlan(plan) || accounts[account].plan == plan) {
                return REFUSED;
            }
            if (!entries.haveRoom(2)) {
                return NO_ROOM;
            }
            Account a = accounts[account];
            int credit = writeCredit(a);
            a.plan = plan;
            return credit + writeCharge(a);
        }

        int putSeats(int account, int seats) {
            if (!isRunning(account) || seats < 1 || seats > 9 || accounts[account].seats == seats) {
                return REFUSED;
            }
            if (!entries.haveRoom(2)) {
                return NO_ROOM;
            }
            Account a = accounts[account];
            int credit = writeCredit(a);
            a.seats = seats;
            return credit + writeCharge(a);
        }

        int putPaused(int account, boolean paused) {
            if (!isRunning(account) || accounts[account].paused == paused) {
                return REFUSED;
            }
            if (!entries.haveRoom(2)) {
                return NO_ROOM;
            }
            Account a = accounts[account];
            int credit = writeCredit(a);
            a.paused = paused;
            return credit + writeCharge(a);
        }

        int endAccount(int account) {
            if (!isRunning(account)) {
                return REFUSED;
            }
            if (!entries.haveRoom(2)) {
                return NO_ROOM;
            }
            Account a = accounts[account];
            int credit = writeCredit(a);
            a.ended = true;
            return credit + writeUsage(a);
        }

        int putAnchor(int account, int anchor) {
            if (!isRunning(account) || !isAnchor(anchor) || accounts[account].anchor == anchor) {
                return REFUSED;
            }
            if (!entries.haveRoom(3)) {
                return NO_ROOM;
            }
            if (calendar.nextTurn(anchor, today) > LAST_DAY) {
                return TOO_FAR;
            }
            Account a = accounts[account];
            int credit = writeCredit(a);
            int used = writeUsage(a);
            a.anchor = anchor;
            startPeriod(a, a.number + 1);
            return credit + used + writeCharge(a);
        }

        int addUnits(int account, int units) {
            if (!isRunning(account) || units < 0) {
                return NONE;
            }
            Account a = accounts[account];
            if (a.paused) {
                return -2;
            }
            if (units > MOST_UNITS - a.units) {
                return -3;
            }
            a.units += units;
            return a.units;
        }

        int grantFavour(int account, int cents) {
            if (!hasBegun(account) || cents < 1 || cents > accounts[account].all) {
                return REFUSED;
            }
            if (!entries.haveRoom(1)) {
                return NO_ROOM;
            }
            write(accounts[account], FAVOUR, today, today, -cents);
            return accounts[account].all;
        }

        int takePayment(int account, int cents) {
            if (!hasBegun(account) || cents < 1 || cents > 999999) {
                return NONE;
            }
            Account a = accounts[account];
            if (cents > MOST_PAID - a.paid) {
                return NONE;
            }
            a.paid += cents;
            return a.paid;
        }

        int writeReminder(int account) {
            if (!hasBegun(account)) {
                return NONE;
            }
            Account a = accounts[account];
            int late = entries.sumLate(account, a.paid, today);
            if (late == 0) {
                return -2;
            }
            if (!entries.haveRoom(1)) {
                return -3;
            }
            if (entries.haveFeeOn(account, today)) {
                return -4;
            }
            long fee = (long) late * tariff.fee / 100;
            return write(a, FEE, today, today, (int) Math.min(99999L, fee));
        }

        int turnRound(int entry) {
            if (!entries.has(entry)) {
                return NONE;
            }
            if (entries.kinds[entry] == TURNED || entries.turnedBy[entry] >= 0) {
                return -2;
            }
            if (!entries.haveRoom(1)) {
                return -3;
            }
            int owner = entries.owners[entry];
            int cents = -entries.cents[entry];
            if (!isAccount(owner) || accounts[owner].all + cents < 0) {
                return -4;
            }
            int i = entries.add(TURNED, owner, today, cents);
            entries.describe(i, entries.numbers[entry], entries.plans[entry], entries.firsts[entry], entries.ends[entry]);
            entries.link(i, entry);
            accounts[owner].all += cents;
            return i;
        }

        // ---- DAYS that pass ----

        boolean canPassDay() {
            int next = today + 1;
            if (next > LAST_DAY) {
                return false;
            }
            int more = 0;
            for (int i = 0; i < ACCOUNTS; i++) {
                if (isRunning(i) && accounts[i].end == next) {
                    more += 2;
                    if (calendar.nextTurn(accounts[i].anchor, next) > LAST_DAY) {
                        return false;
                    }
                }
            }
            return entries.haveRoom(more);
        }

        void passDay() {
            today++;
            for (int i = 0; i < ACCOUNTS; i++) {
                Account a = accounts[i];
                if (isRunning(i) && a.end == today) {
                    writeUsage(a);
                    startPeriod(a, a.number + 1);
                    writeCharge(a);
                }
            }
        }

        int passDays(int n) {
            if (n < 1 || n > MOST_DAYS) {
                return NONE;
            }
            int passed = 0;
            while (passed < n && canPassDay()) {
                passDay();
                passed++;
            }
            return passed;
        }

        // ---- what is asked ----

        private boolean hasRate(int entry, int owner, int rate) {
            return entries.isOf(entry, owner) && tariff.rateOn(entries.writtenOn[entry]) == rate;
        }

        int taxOf(int entry) {
            if (!entries.has(entry)) {
                return REFUSED;
            }
            int owner = entries.owners[entry];
            int rate = tariff.rateOn(entries.writtenOn[entry]);
            long before = 0;
            for (int i = 0; i < entry; i++) {
                if (hasRate(i, owner, rate)) {
                    before += entries.cents[i];
                }
            }
            long after = before + entries.cents[entry];
            return (int) (after * rate / 100 - before * rate / 100);
        }

        // Each TAX is what the sum gains by its ENTRY, so all of them together are that of the sum.
        int taxesOf(int owner, int rate) {
            long sum = 0;
            for (int i = 0; i < entries.size; i++) {
                if (hasRate(i, owner, rate)) {
                    sum += entries.cents[i];
                }
            }
            return (int) (sum * rate / 100);
        }

        int quoteOn(Account a, int plan, int day) {
            return a.partToEnd(tariff.worth(plan, a), day) - a.partToEnd(tariff.worth(a.plan, a), day);
        }

        int cheapestDay(Account a, int plan) {
            int best = today;
            int least = quoteOn(a, plan, today);
            for (int day = today + 1; day < a.end; day++) {
                int cents = quoteOn(a, plan, day);
                if (cents < least) {
                    best = day;
                    least = cents;
                }
            }
            return best;
        }

        int cheapestChange(Account a) {
            int best = 0;
            int least = quoteOn(a, 0, today);
            for (int plan = 1; plan < PLANS; plan++) {
                int cents = quoteOn(a, plan, today);
                if (cents < least) {
                    best = plan;
                    least = cents;
                }
            }
            return best;
        }

        int begunBits() {
            int bits = 0;
            for (int i = 0; i < ACCOUNTS; i++) {
                bits |= accounts[i].begun ? 1 << i : 0;
            }
            return bits;
        }

        int endedBits() {
            int bits = 0;
            for (int i = 0; i < ACCOUNTS; i++) {
                bits |= accounts[i].ended ? 1 << i : 0;
            }
            return bits;
        }

        int pausedBits() {
            int bits = 0;
            for (int i = 0; i < ACCOUNTS; i++) {
                bits |= accounts[i].paused ? 1 << i : 0;
            }
            return bits;
        }
    }

    /** A text on the tape, read from the left till its first FAULT; behind that nothing is read. */
    private static final class Reader {
        private final byte[] bytes;
        private int length;
        private int place;
        private int fault;
        private int faultPlace;

        Reader(byte[] bytes) {
            this.bytes = bytes;
        }

        void start(int n) {
            length = Math.max(0, Math.min(n, bytes.length));
            place = 0;
            fault = 0;
            faultPlace = 0;
        }

        boolean isSound() {
            return fault == 0;
        }

        /** 0 of a text without a FAULT. */
        int faultAnswer() {
            return -1000 * fault - faultPlace;
        }

        void mark(int number, int at) {
            if (fault == 0) {
                fault = number;
                faultPlace = at;
            }
        }

        private int byteAt(int i) {
            return i >= 0 && i < length && i < bytes.length ? bytes[i] & 255 : NONE;
        }

        void blank() {
            if (fault != 0) {
                return;
            }
            if (byteAt(place) == ' ') {
                place++;
            } else {
                mark(1, place);
            }
        }

        /** Whether another CLAUSE or STEP follows behind a ; */
        boolean goesOn() {
            if (fault != 0 || place >= length) {
                return false;
            }
            if (byteAt(place) == ';') {
                place++;
                return true;
            }
            mark(1, place);
            return false;
        }

        /** Which of these words (with a blank between two) stands here, or NONE and a FAULT. */
        int word(String words) {
            if (fault != 0) {
                return NONE;
            }
            int end = place;
            while (end < length && byteAt(end) >= 'a' && byteAt(end) <= 'z') {
                end++;
            }
            int from = 0;
            int index = 0;
            for (int i = 0; i <= words.length(); i++) {
                if (i == words.length() || words.charAt(i) == ' ') {
                    if (i - from == end - place && isSame(words, from, i)) {
                        place = end;
                        return index;
                    }
                    from = i + 1;
                    index++;
                }
            }
            mark(1, place);
            return NONE;
        }

        private boolean isSame(String words, int from, int to) {
            for (int i = from; i < to && i < words.length(); i++) {
                if (words.charAt(i) != byteAt(place + i - from)) {
                    return false;
                }
            }
            return true;
        }

        int planLetter() {
            int sign = byteAt(place);
            if (fault != 0) {
                return 0;
            }
            if (sign < 'A' || sign > 'F') {
                mark(1, place);
                return 0;
            }
            place++;
            return sign - 'A';
        }

        // An X is one sign and no NUMBER, so a digit behind it is left to whatever is due there.
        int accountDigit() {
            int sign = byteAt(place);
            if (fault != 0) {
                return 0;
            }
            if (sign < '0' || sign > '9') {
                mark(1, place);
                return 0;
            }
            if (sign - '0' >= ACCOUNTS) {
                mark(3, place);
                return 0;
            }
            place++;
            return sign - '0';
        }

        int number(int low, int high) {
            if (fault != 0) {
                return low;
            }
            int first = place;
            int value = 0;
            int sign = byteAt(place);
            while (place < first + 5 && sign >= '0' && sign <= '9') {
                value = value * 10 + sign - '0';
                place++;
                sign = byteAt(place);
            }
            if (place == first + 5 && sign >= '0' && sign <= '9') {
                mark(2, place);
                return low;
            }
            if (place == first) {
                mark(1, first);
            } else if (value < low || value > high) {
                mark(3, first);
            }
            return fault == 0 ? value : low;
        }
    }

    /** Reads THE BOOK into a draft. */
    private static final class BookText {
        private static final int MOST_CLAUSES = 20;
        private static final String WORDS = "price free tier rest mode pause bulk less fee tax";
        private static final int PRICE = 0;
        private static final int FREE = 1;
        private static final int TIER = 2;
        private static final int REST = 3;
        private static final int MODE = 4;
        private static final int PAUSE = 5;
        private static final int BULK = 6;
        private static final int LESS = 7;
        private static final int FEES = 8;
        private static final int TAX = 9;

        private final Reader reader;
        private final Tariff draft = new Tariff();

        BookText(byte[] tape) {
            reader = new Reader(tape);
        }

        /** 0, or the answer to a FAULT. */
        int read(int n) {
            reader.start(n);
            draft.clear();
            boolean more = true;
            for (int i = 0; i <= MOST_CLAUSES && more; i++) {
                if (i == MOST_CLAUSES) {
                    reader.mark(4, reader.place);
                } else {
                    readClause();
                    draft.clauses++;
                }
                more = reader.goesOn();
            }
            return reader.faultAnswer();
        }

        private void readClause() {
            int at = reader.place;
            int word = reader.word(WORDS);
            if (word == TAX && draft.taxes >= Tariff.MOST_TAXES) {
                reader.mark(6, at);
            }
            reader.blank();
            if (!reader.isSound()) {
                return;
            }
            switch (word) {
                case LESS:
                    draft.less = reader.number(0, 100);
                    reader.blank();
                    draft.lessPeriods = reader.number(0, 99);
                    break;
                case FEES:
                    draft.fee = reader.number(0, 20);
                    break;
                case TAX:
                    readTax();
                    break;
                default:
                    readOfPlan(word);
                    break;
            }
        }

        private void readTax() {
            int at = reader.place;
            int day = reader.number(0, LAST_DAY);
            if (!draft.isAboveTaxes(day)) {
                reader.mark(6, at);
            }
            reader.blank();
            draft.addTax(day, reader.number(0, 100));
        }

        private void readOfPlan(int word) {
            int at = reader.place;
            PlanTerms terms = draft.termsOf(reader.planLetter());
            if (word == TIER && terms.tiers >= PlanTerms.MOST_TIERS
                    || word == BULK && terms.bulks >= PlanTerms.MOST_BULKS) {
                reader.mark(6, at);
            }
            reader.blank();
            if (!reader.isSound()) {
                return;
            }
            switch (word) {
                case PRICE:
                    terms.price = reader.number(0, 99999);
                    break;
                case FREE:
                    terms.free = reader.number(0, 9999);
                    break;
                case TIER:
                    readTier(terms);
                    break;
                case REST:
                    terms.rest = reader.number(0, 99);
                    break;
                case MODE:
                    terms.whole = reader.word("adding whole") == 1;
                    break;
                case PAUSE:
                    terms.paused = reader.number(0, 100);
                    break;
                default:
                    readBulk(terms);
                    break;
            }
        }

        private void readTier(PlanTerms terms) {
            int at = reader.place;
            int bound = reader.number(1, 9999);
            if (!terms.isAboveBounds(bound)) {
                reader.mark(6, at);
            }
            reader.blank();
            terms.addTier(bound, reader.number(0, 99));
        }

        private void readBulk(PlanTerms terms) {
            int at = reader.place;
            int seats = reader.number(2, 9);
            if (!terms.isAboveBulks(seats)) {
                reader.mark(6, at);
            }
            reader.blank();
            terms.addBulk(seats, reader.number(0, 100));
        }
    }

    /** Reads DEEDS into rows of STEPS, and does them. */
    private static final class DeedText {
        private static final int MOST_STEPS = 24;
        private static final String WORDS = "begin change seats stop on quit use days favour pay remind move turn";
        // By WORDS what follows each: 1 an account, 2 a PLAN, 4 a NUMBER.
        private static final int[] FOLLOWS = {7, 3, 5, 1, 1, 1, 5, 4, 5, 5, 1, 5, 4};

        private final Reader reader;
        private int steps;
        private final int[] words = new int[MOST_STEPS];
        private final int[] accounts = new int[MOST_STEPS];
        private final int[] plans = new int[MOST_STEPS];
        private final int[] numbers = new int[MOST_STEPS];

        DeedText(byte[] tape) {
            reader = new Reader(tape);
        }

        /** 0, or the answer to a FAULT. */
        int read(int n) {
            reader.start(n);
            steps = 0;
            boolean more = true;
            for (int i = 0; i <= MOST_STEPS && more; i++) {
                if (i == MOST_STEPS) {
                    reader.mark(4, reader.place);
                } else {
                    readStep(i);
                    steps++;
                }
                more = reader.goesOn();
            }
            return reader.faultAnswer();
        }

        private void readStep(int i) {
            int word = reader.word(WORDS);
            if (word < 0 || word >= FOLLOWS.length || i < 0 || i >= MOST_STEPS) {
                return;
            }
            words[i] = word;
            if ((FOLLOWS[word] & 1) != 0) {
                reader.blank();
                accounts[i] = reader.accountDigit();
            }
            if ((FOLLOWS[word] & 2) != 0) {
                reader.blank();
                plans[i] = reader.planLetter();
            }
            if ((FOLLOWS[word] & 4) != 0) {
                reader.blank();
                numbers[i] = reader.number(0, 99999);
            }
        }

        /** Does a STEP; false if it was refused. */
        boolean isDone(int i, Biller biller) {
            if (i < 0 || i >= steps || i >= MOST_STEPS) {
                return false;
            }
            int account = accounts[i];
            int number = numbers[i];
            switch (words[i]) {
                case 0: return biller.startAccount(account, plans[i], number) >= 0;
                case 1: return biller.putPlan(account, plans[i]) > REFUSED;
                case 2: return biller.putSeats(account, number) > REFUSED;
                case 3: return biller.putPaused(account, true) > REFUSED;
                case 4: return biller.putPaused(account, false) > REFUSED;
                case 5: return biller.endAccount(account) > REFUSED;
                case 6: return biller.addUnits(account, number) >= 0;
                case 7: return biller.passDays(number) >= 0;
                case 8: return biller.grantFavour(account, number) > REFUSED;
                case 9: return biller.takePayment(account, number) >= 0;
                case 10: return biller.writeReminder(account) >= 0;
                case 11: return biller.putAnchor(account, number) > REFUSED;
                default: return biller.turnRound(number) >= 0;
            }
        }
    }

    /** The LINE of an ENTRY. */
    private static final class LineText {
        private static final int LONGEST = 80;
        // Each as long as the longest, so that a KIND's word begins at its number times that.
        private static final String KIND_WORDS = "chargecreditusage favourturnedfee   ";
        private static final int KIND_LENGTH = 6;

        private final Calendar calendar;
        private final byte[] bytes = new byte[LONGEST];
        private int length;

        LineText(Calendar calendar) {
            this.calendar = calendar;
        }

        int byteAt(int i) {
            return i >= 0 && i < length && i < LONGEST ? bytes[i] & 255 : -4;
        }

        void write(Entries entries, int entry) {
            length = 0;
            if (!entries.has(entry)) {
                return;
            }
            put('P');
            putNumber(entries.numbers[entry], 1);
            put(' ');
            putDate(entries.firsts[entry]);
            put(' ');
            put('t');
            put('o');
            put(' ');
            putDate(entries.ends[entry]);
            put(' ');
            put('A' + entries.plans[entry]);
            put(' ');
            putKind(entries.kinds[entry]);
            put(' ');
            putEuros(entries.cents[entry]);
        }

        private void put(int sign) {
            if (length >= 0 && length < LONGEST) {
                bytes[length] = (byte) sign;
                length++;
            }
        }

        private void putNumber(int number, int leastDigits) {
            int unit = 1;
            for (int digits = 1; digits < 10 && (digits < leastDigits || number / 10 >= unit); digits++) {
                unit *= 10;
            }
            for (int digits = 0; digits < 10 && unit > 0; digits++) {
                put('0' + number / unit % 10);
                unit /= 10;
            }
        }

        private void putDate(int day) {
            putNumber(calendar.yearOf(day), 4);
            put('-');
            putNumber(calendar.monthOf(day), 2);
            put('-');
            putNumber(calendar.dayOfMonth(day), 2);
        }

        private void putKind(int kind) {
            int from = kind * KIND_LENGTH;
            for (int i = from; i >= 0 && i < from + KIND_LENGTH && i < KIND_WORDS.length(); i++) {
                if (KIND_WORDS.charAt(i) != ' ') {
                    put(KIND_WORDS.charAt(i));
                }
            }
        }

        private void putEuros(int cents) {
            if (cents < 0) {
                put('-');
            }
            int amount = Math.abs(cents);
            putNumber(amount / 100, 1);
            put('.');
            putNumber(amount % 100, 2);
        }
    }
}
