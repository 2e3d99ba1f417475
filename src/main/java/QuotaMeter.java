/**
 * A meter for several tenants: usage events counted once, nested quotas, and periods closed into invoices.
 * What each call does is promised, by number, in the project's document (../shared/DOC.md).
 */
public final class QuotaMeter {
    public static final int NONE = -1, BAD = -2, FULL = -3, EARLY = -4, LATE = -5, DUPLICATE = -6, REFUSED = -7;

    private static final int TENANTS = 6;
    private static final int RESOURCES = 4;
    private static final int ACCOUNTS = 24;
    private static final int HOLDS = 200;
    private static final int OPEN_HOLDS = 40;
    private static final int INVOICES = 60;
    private static final int KEYS = 300;
    private static final int TIERS = 5;
    private static final int CREDITS = 40;
    private static final int LASTING_CREDITS = 10;

    private static final int LAST_MINUTE = 99999;
    private static final int LONGEST_TICK = 10000;
    private static final int PERIODS = 100;
    private static final int PERIOD_MINUTES = 1000;
    private static final int LATE_MINUTES = 500;
    private static final int KEY_MINUTES = 1000;
    private static final int HOLD_MINUTES = 60;

    private static final int MOST_UNITS = 1000000;
    private static final int MOST_LIMIT = 1000000000;
    private static final int MOST_SIZE = 100000;
    private static final int MOST_PRICE = 1000000;
    private static final int MOST_FEE = 1000000000;
    private static final int WHOLE = 10000;
    private static final long MOST_LAST = 10000000000L;
    private static final long MOST_MONEY = 1000000000000L;

    private static final int PER_UNIT = 0;
    private static final int ALL_AT_LAST = 1;
    private static final int PER_PACKAGE = 2;

    private static final int USAGE = 0;
    private static final int ADJUSTMENT = 1;
    private static final int DISCOUNT = 2;
    private static final int MINIMUM = 3;
    private static final int TAX = 4;
    private static final int CREDIT = 5;
    /** Usage and adjustments of each resource, discount, minimum and tax, and every credit that can have something left. */
    private static final int LINES = 2 * RESOURCES + 3 + LASTING_CREDITS;

    private final Tenant[] tenants = new Tenant[TENANTS];
    private final Account[] accounts = new Account[ACCOUNTS];
    private final Hold[] holds = new Hold[HOLDS];
    private final Invoice[] invoices = new Invoice[INVOICES];
    private final KeyBook keys = new KeyBook();
    private int now;
    private int accountCount;
    private int holdCount;
    private int openCount;
    private int invoiceCount;

    public QuotaMeter() {
        for (int i = 0; i < TENANTS; i++) {
            tenants[i] = new Tenant(i);
        }
    }

    public int account(int tenant, int in) {
        Tenant owner = tenantAt(tenant);
        Account outer = accountAt(in);
        if (owner == null || (outer == null && in != NONE)) {
            return BAD;
        }
        if (outer != null && outer.owner.number != tenant) {
            return BAD;
        }
        if (accountCount >= ACCOUNTS) {
            return FULL;
        }
        accounts[accountCount] = new Account(accountCount, owner, outer);
        accountCount++;
        return accountCount - 1;
    }

    public int tick(int minutes) {
        if (minutes < 1 || minutes > LONGEST_TICK) {
            return BAD;
        }
        if (now + minutes > LAST_MINUTE) {
            return FULL;
        }
        now += minutes;
        keys.forgetOld(now);
        endOldHolds();
        return now;
    }

    public int event(long key, int account, int resource, int units, int minute) {
        Account user = accountAt(account);
        if (user == null || !isResource(resource) || !isUnits(units) || minute < 0) {
            return BAD;
        }
        if (minute > now) {
            return EARLY;
        }
        if (now - minute > LATE_MINUTES) {
            return LATE;
        }
        if (keys.knows(user.owner.number, key)) {
            return DUPLICATE;
        }
        if (!keys.learn(user.owner.number, key, minute)) {
            return FULL;
        }
        return countUnits(user, resource, units, minute / PERIOD_MINUTES);
    }

    public int limit(int account, int resource, int limit) {
        Account user = accountAt(account);
        if (user == null || !isResource(resource) || limit < NONE || limit > MOST_LIMIT) {
            return BAD;
        }
        user.limits[resource] = limit;
        return 0;
    }

    public int request(int account, int resource, int units) {
        Account user = accountAt(account);
        if (user == null || !isResource(resource) || !isUnits(units)) {
            return BAD;
        }
        if (openCount >= OPEN_HOLDS || holdCount >= HOLDS) {
            return FULL;
        }
        if (units > user.freeUnits(resource, now / PERIOD_MINUTES)) {
            return REFUSED;
        }
        holds[holdCount] = new Hold(user, resource, units, now);
        holdCount++;
        openCount++;
        user.addHeld(resource, units);
        return holdCount - 1;
    }

    public int settle(int hold, int units, long key) {
        Hold open = openHoldAt(hold);
        if (open == null || units < 0 || units > open.units) {
            return BAD;
        }
        int answer = 0;
        if (units > 0) {
            answer = event(key, open.user.number, open.resource, units, now);
        }
        if (answer >= 0) {
            endHold(open);
        }
        return answer;
    }

    public int drop(int hold) {
        Hold open = openHoldAt(hold);
        if (open == null) {
            return BAD;
        }
        endHold(open);
        return open.units;
    }

    public int mode(int tenant, int resource, int mode, int size) {
        Prices prices = pricesAt(tenant, resource);
        if (prices == null || mode < PER_UNIT || mode > PER_PACKAGE || size < 1 || size > MOST_SIZE) {
            return BAD;
        }
        prices.mode = mode;
        prices.size = size;
        return 0;
    }

    public int tier(int tenant, int resource, int j, long last, int price, int fee) {
        Prices prices = pricesAt(tenant, resource);
        if (prices == null || last < 1 || last > MOST_LAST) {
            return BAD;
        }
        if (price < 0 || price > MOST_PRICE || fee < 0 || fee > MOST_FEE) {
            return BAD;
        }
        return prices.putTier(j, last, price, fee) ? 0 : BAD;
    }

    public int tiers(int tenant, int resource, int many) {
        Prices prices = pricesAt(tenant, resource);
        if (prices == null || many < 1 || many > TIERS) {
            return BAD;
        }
        prices.tierCount = Math.min(prices.tierCount, many);
        return prices.tierCount;
    }

    public long cost(int tenant, int resource, long n) {
        Prices prices = pricesAt(tenant, resource);
        if (prices == null || n < 0 || n > MOST_LAST) {
            return BAD;
        }
        return prices.costOf(n);
    }

    public int terms(int tenant, int discount, long minimum, int tax) {
        Tenant owner = tenantAt(tenant);
        if (owner == null || !isRate(discount) || minimum < 0 || minimum > MOST_MONEY || !isRate(tax)) {
            return BAD;
        }
        owner.discount = discount;
        owner.minimum = minimum;
        owner.tax = tax;
        return 0;
    }

    public int credit(int tenant, long money, int period) {
        Tenant owner = tenantAt(tenant);
        if (owner == null || money < 1 || money > MOST_MONEY) {
            return BAD;
        }
        if (!isPeriod(period) || period < owner.closedPeriods) {
            return BAD;
        }
        return owner.credits.give(money, period);
    }

    public int close(int tenant) {
        Tenant owner = tenantAt(tenant);
        if (owner == null) {
            return BAD;
        }
        if (now < (owner.closedPeriods + 1) * PERIOD_MINUTES) {
            return EARLY;
        }
        if (invoiceCount >= INVOICES) {
            return FULL;
        }
        Invoice bill = new Invoice(tenant, owner.closedPeriods);
        billUsage(bill, owner);
        owner.billAdjustments(bill);
        owner.billTerms(bill);
        owner.credits.payFor(bill);
        owner.endPeriod();
        invoices[invoiceCount] = bill;
        invoiceCount++;
        return invoiceCount - 1;
    }

    public long used(int account, int resource, int period) {
        Account user = accountAt(account);
        if (user == null || !isResource(resource) || !isPeriod(period)) {
            return BAD;
        }
        return user.usedUnits[resource][period];
    }

    public int held(int account, int resource) {
        Account user = accountAt(account);
        if (user == null || !isResource(resource)) {
            return BAD;
        }
        return user.heldUnits[resource];
    }

    public int room(int account, int resource) {
        Account user = accountAt(account);
        if (user == null || !isResource(resource)) {
            return BAD;
        }
        return user.freeUnits(resource, now / PERIOD_MINUTES);
    }

    public int hold(int hold, int what) {
        Hold asked = holdAt(hold);
        if (asked == null) {
            return BAD;
        }
        switch (what) {
            case 0:
                return asked.user.number;
            case 1:
                return asked.resource;
            case 2:
                return asked.units;
            case 3:
                return asked.minute;
            case 4:
                return asked.isOpen ? 1 : 0;
            default:
                return BAD;
        }
    }

    public long line(int invoice, int line, int what) {
        Invoice bill = invoiceAt(invoice);
        if (bill == null || line < 0 || line >= bill.lineCount) {
            return BAD;
        }
        switch (what) {
            case 0:
                return bill.kinds[line];
            case 1:
                return bill.resources[line];
            case 2:
                return bill.quantities[line];
            case 3:
                return bill.moneys[line];
            default:
                return BAD;
        }
    }

    public long invoice(int invoice, int what) {
        Invoice bill = invoiceAt(invoice);
        if (bill == null) {
            return BAD;
        }
        switch (what) {
            case 0:
                return bill.tenant;
            case 1:
                return bill.period;
            case 2:
                return bill.lineCount;
            case 3:
                return bill.sum;
            default:
                return BAD;
        }
    }

    public long left(int tenant, int credit) {
        Tenant owner = tenantAt(tenant);
        if (owner == null || credit < 0 || credit >= owner.credits.given) {
            return BAD;
        }
        return owner.credits.lefts[credit];
    }

    public int count(int what) {
        switch (what) {
            case 0:
                return now;
            case 1:
                return accountCount;
            case 2:
                return keys.known;
            case 3:
                return openCount;
            case 4:
                return invoiceCount;
            default:
                return BAD;
        }
    }

    public int closed(int tenant) {
        Tenant owner = tenantAt(tenant);
        return owner == null ? BAD : owner.closedPeriods;
    }

    private static boolean isResource(int resource) {
        return resource >= 0 && resource < RESOURCES;
    }

    private static boolean isPeriod(int period) {
        return period >= 0 && period < PERIODS;
    }

    private static boolean isUnits(int units) {
        return units >= 1 && units <= MOST_UNITS;
    }

    private static boolean isRate(int rate) {
        return rate >= 0 && rate <= WHOLE;
    }

    private Tenant tenantAt(int number) {
        return number >= 0 && number < TENANTS ? tenants[number] : null;
    }

    private Account accountAt(int number) {
        return number >= 0 && number < accountCount ? accounts[number] : null;
    }

    private Hold holdAt(int number) {
        return number >= 0 && number < holdCount ? holds[number] : null;
    }

    private Hold openHoldAt(int number) {
        Hold found = holdAt(number);
        return found != null && found.isOpen ? found : null;
    }

    private Invoice invoiceAt(int number) {
        return number >= 0 && number < invoiceCount ? invoices[number] : null;
    }

    private Prices pricesAt(int tenant, int resource) {
        Tenant owner = tenantAt(tenant);
        return owner != null && isResource(resource) ? owner.prices[resource] : null;
    }

    private int countUnits(Account user, int resource, int units, int period) {
        boolean isAdjustment = period < user.owner.closedPeriods;
        if (isAdjustment) {
            user.owner.adjust(resource, quantityOf(user.owner, resource, period), units);
        }
        user.addUsed(resource, period, units);
        return isAdjustment ? 1 : 0;
    }

    /** An account counts what lies in it too, so those that lie in none hold all of the tenant's units, each once. */
    private long quantityOf(Tenant owner, int resource, int period) {
        long sum = 0;
        for (int i = 0; i < accountCount; i++) {
            Account user = accounts[i];
            if (user != null && user.outer == null && user.owner.number == owner.number) {
                sum += user.usedUnits[resource][period];
            }
        }
        return sum;
    }

    private void billUsage(Invoice bill, Tenant owner) {
        for (int resource = 0; resource < RESOURCES; resource++) {
            long quantity = quantityOf(owner, resource, bill.period);
            if (quantity > 0) {
                bill.add(USAGE, resource, quantity, owner.prices[resource].costOf(quantity));
            }
        }
    }

    private void endOldHolds() {
        for (int i = 0; i < holdCount; i++) {
            Hold old = openHoldAt(i);
            if (old != null && now - old.minute >= HOLD_MINUTES) {
                endHold(old);
            }
        }
    }

    private void endHold(Hold open) {
        open.isOpen = false;
        openCount--;
        open.user.addHeld(open.resource, -open.units);
    }

    /** Keeps its sums for itself and all that lies in it, so that a quota is looked up and not added up. */
    private static final class Account {
        final int number;
        final Tenant owner;
        final Account outer;
        final long[][] usedUnits = new long[RESOURCES][PERIODS];
        final int[] heldUnits = new int[RESOURCES];
        final int[] limits = new int[RESOURCES];

        Account(int number, Tenant owner, Account outer) {
            this.number = number;
            this.owner = owner;
            this.outer = outer;
            for (int i = 0; i < RESOURCES; i++) {
                limits[i] = NONE;
            }
        }

        void addUsed(int resource, int period, int units) {
            for (Account a = this; a != null; a = a.outer) {
                a.usedUnits[resource][period] += units;
            }
        }

        void addHeld(int resource, int units) {
            for (Account a = this; a != null; a = a.outer) {
                a.heldUnits[resource] += units;
            }
        }

        int freeUnits(int resource, int period) {
            long free = MOST_UNITS;
            for (Account a = this; a != null; a = a.outer) {
                if (a.limits[resource] != NONE) {
                    free = Math.min(free, a.limits[resource] - a.usedUnits[resource][period] - a.heldUnits[resource]);
                }
            }
            return (int) Math.max(free, 0);
        }
    }

    private static final class Hold {
        final Account user;
        final int resource;
        final int units;
        final int minute;
        boolean isOpen = true;

        Hold(Account user, int resource, int units, int minute) {
            this.user = user;
            this.resource = resource;
            this.units = units;
            this.minute = minute;
        }
    }

    /** Only keys that are not forgotten stand in it, so that how many it has is what the limit of keys is about. */
    private static final class KeyBook {
        final long[] keys = new long[KEYS];
        final int[] tenants = new int[KEYS];
        final int[] minutes = new int[KEYS];
        int known;

        boolean knows(int tenant, long key) {
            for (int i = 0; i < known; i++) {
                if (keys[i] == key && tenants[i] == tenant) {
                    return true;
                }
            }
            return false;
        }

        boolean learn(int tenant, long key, int minute) {
            if (known >= KEYS) {
                return false;
            }
            keys[known] = key;
            tenants[known] = tenant;
            minutes[known] = minute;
            known++;
            return true;
        }

        void forgetOld(int now) {
            int kept = 0;
            for (int i = 0; i < known; i++) {
                if (now - minutes[i] < KEY_MINUTES) {
                    keys[kept] = keys[i];
                    tenants[kept] = tenants[i];
                    minutes[kept] = minutes[i];
                    kept++;
                }
            }
            known = kept;
        }
    }

    private static final class Prices {
        final long[] lasts = new long[TIERS];
        final int[] prices = new int[TIERS];
        final int[] fees = new int[TIERS];
        int tierCount = 1;
        int mode = PER_UNIT;
        int size = 1;

        Prices() {
            lasts[0] = 1;
        }

        boolean putTier(int j, long last, int price, int fee) {
            if (j < 0 || j > tierCount || j >= TIERS) {
                return false;
            }
            int many = Math.max(tierCount, j + 1);
            if (!wouldRise(j, last, many)) {
                return false;
            }
            lasts[j] = last;
            prices[j] = price;
            fees[j] = fee;
            tierCount = many;
            return true;
        }

        /** Looks at every tier but the last one, since a tier more makes the one before it count as well. */
        private boolean wouldRise(int j, long last, int many) {
            long before = 0;
            for (int i = 0; i < many - 1; i++) {
                long own = i == j ? last : lasts[i];
                if (own <= before) {
                    return false;
                }
                before = own;
            }
            return true;
        }

        long costOf(long n) {
            if (n <= 0) {
                return 0;
            }
            return mode == ALL_AT_LAST ? costAtLastTier(n) : costByTiers(n);
        }

        private long costAtLastTier(long n) {
            int reached = 0;
            while (reached < tierCount - 1 && n > lasts[reached]) {
                reached++;
            }
            return n * prices[reached] + fees[reached];
        }

        private long costByTiers(long n) {
            long sum = 0;
            long before = 0;
            for (int j = 0; j < tierCount && before < n; j++) {
                long last = j == tierCount - 1 ? n : Math.min(n, lasts[j]);
                sum += pricedParts(last - before) * prices[j] + fees[j];
                before = last;
            }
            return sum;
        }

        private long pricedParts(long units) {
            if (mode != PER_PACKAGE || size < 1) {
                return units;
            }
            return (units + size - 1) / size;
        }

        void copyFrom(Prices other) {
            for (int j = 0; j < TIERS; j++) {
                lasts[j] = other.lasts[j];
                prices[j] = other.prices[j];
                fees[j] = other.fees[j];
            }
            tierCount = other.tierCount;
            mode = other.mode;
            size = other.size;
        }
    }

    private static final class Tenant {
        final int number;
        final Prices[] prices = new Prices[RESOURCES];
        /** One row is enough: an event is late by 500 minutes at most, so only the period closed last can be adjusted. */
        final Prices[] closedPrices = new Prices[RESOURCES];
        final long[] adjustedUnits = new long[RESOURCES];
        final long[] adjustedMoney = new long[RESOURCES];
        final CreditBook credits = new CreditBook();
        int closedPeriods;
        int discount;
        long minimum;
        int tax;

        Tenant(int number) {
            this.number = number;
            for (int i = 0; i < RESOURCES; i++) {
                prices[i] = new Prices();
                closedPrices[i] = new Prices();
            }
        }

        void adjust(int resource, long quantity, int units) {
            Prices then = closedPrices[resource];
            adjustedUnits[resource] += units;
            adjustedMoney[resource] += then.costOf(quantity + units) - then.costOf(quantity);
        }

        void billAdjustments(Invoice bill) {
            for (int i = 0; i < RESOURCES; i++) {
                if (adjustedUnits[i] > 0) {
                    bill.add(ADJUSTMENT, i, adjustedUnits[i], adjustedMoney[i]);
                }
            }
        }

        void billTerms(Invoice bill) {
            bill.addSome(DISCOUNT, -bill.partOfSum(discount));
            bill.addSome(MINIMUM, Math.max(minimum - bill.sum, 0));
            bill.addSome(TAX, bill.partOfSum(tax));
        }

        void endPeriod() {
            for (int i = 0; i < RESOURCES; i++) {
                adjustedUnits[i] = 0;
                adjustedMoney[i] = 0;
                closedPrices[i].copyFrom(prices[i]);
            }
            credits.endIn(closedPeriods);
            closedPeriods++;
        }
    }

    private static final class CreditBook {
        final long[] lefts = new long[CREDITS];
        final int[] lastPeriods = new int[CREDITS];
        int given;

        int give(long money, int period) {
            if (given >= CREDITS || countLasting() >= LASTING_CREDITS) {
                return FULL;
            }
            lefts[given] = money;
            lastPeriods[given] = period;
            given++;
            return given - 1;
        }

        private int countLasting() {
            int lasting = 0;
            for (int i = 0; i < given; i++) {
                if (lefts[i] > 0) {
                    lasting++;
                }
            }
            return lasting;
        }

        void payFor(Invoice bill) {
            for (int tries = 0; tries < LASTING_CREDITS && bill.sum > 0; tries++) {
                int next = nextToUse();
                if (next == NONE) {
                    return;
                }
                long part = Math.min(lefts[next], bill.sum);
                lefts[next] -= part;
                bill.addSome(CREDIT, -part);
            }
        }

        /** A credit with something left is good in the period that is being closed: the older ones were ended with theirs. */
        private int nextToUse() {
            int next = NONE;
            for (int i = 0; i < given; i++) {
                if (lefts[i] > 0 && (next == NONE || lastPeriods[i] < lastPeriods[next])) {
                    next = i;
                }
            }
            return next;
        }

        void endIn(int period) {
            for (int i = 0; i < given; i++) {
                if (lastPeriods[i] <= period) {
                    lefts[i] = 0;
                }
            }
        }
    }

    private static final class Invoice {
        final int tenant;
        final int period;
        final int[] kinds = new int[LINES];
        final int[] resources = new int[LINES];
        final long[] quantities = new long[LINES];
        final long[] moneys = new long[LINES];
        int lineCount;
        long sum;

        Invoice(int tenant, int period) {
            this.tenant = tenant;
            this.period = period;
        }

        void add(int kind, int resource, long quantity, long money) {
            if (lineCount >= LINES) {
                return;
            }
            kinds[lineCount] = kind;
            resources[lineCount] = resource;
            quantities[lineCount] = quantity;
            moneys[lineCount] = money;
            lineCount++;
            sum += money;
        }

        void addSome(int kind, long money) {
            if (money != 0) {
                add(kind, NONE, 0, money);
            }
        }

        /** Splits the sum before it multiplies, so that no product can leave the long; floors make it right below 0 too. */
        long partOfSum(int rate) {
            long product = Math.floorMod(sum, (long) WHOLE) * rate;
            long part = Math.floorDiv(sum, (long) WHOLE) * rate + product / WHOLE;
            long twiceOver = 2 * (product % WHOLE);
            boolean isOdd = (part & 1) == 1;
            if (twiceOver > WHOLE || (twiceOver == WHOLE && isOdd)) {
                part++;
            }
            return part;
        }
    }
}
