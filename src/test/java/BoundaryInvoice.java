/**
 * The boundaries of promises 13 (terms), 14 (credit), 15 (close), 20 (line), 21 (invoice), 22 (left) and 24 (closed),
 * sentence by sentence.
 */
final class BoundaryInvoice {
    private static final int NONE = -1, BAD = -2, FULL = -3, EARLY = -4, LATE = -5, DUPLICATE = -6;
    private static final int LEAST = Integer.MIN_VALUE, MOST = Integer.MAX_VALUE;
    private static final long MOST_MONEY = 1000000000000L;
    private static final int[] NO_TENANTS = {-1, 6, LEAST, MOST};
    private static final int USAGE = 0, ADJUSTMENT = 1, DISCOUNT = 2, MINIMUM = 3, TAX = 4, CREDIT = 5;

    /** Account 0, and 1 in it, of tenant 0, where a unit of each resource costs 1; account 2 of tenant 5. */
    private static Edge withPrices(int promise, String sentence) {
        Edge e = new Edge(promise, sentence);
        e.given(m -> m.account(0, NONE)).given(m -> m.account(0, 0)).given(m -> m.account(5, NONE));
        for (int i = 0; i < 4; i++) {
            int resource = i;
            e.given(m -> m.tier(0, resource, 0, 1, 1, 0));
        }
        return e;
    }

    /** Invoice 0, of so many units for 1 each and these terms. */
    private static Edge billed(int promise, String sentence, int units, int discount, long minimum, int tax) {
        Edge e = withPrices(promise, sentence);
        e.given(m -> m.event(1, 0, 0, units, 0)).given(m -> m.terms(0, discount, minimum, tax)).given(m -> m.tick(1000));
        return e.given(m -> m.close(0));
    }

    /** Invoice 1, whose usage and adjustments make that sum, from -1000000 on; without terms so far. */
    private static Edge belowZero(int promise, String sentence, int sum) {
        Edge e = withPrices(promise, sentence);
        e.given(m -> m.mode(0, 0, 1, 1)).given(m -> m.tier(0, 0, 0, 1, 1000000, 0));
        e.given(m -> m.tier(0, 0, 1, 1, 0, 1000000 + sum));
        e.given(m -> m.event(1, 0, 0, 1, 0)).given(m -> m.tick(1000)).given(m -> m.close(0));
        return e.given(m -> m.event(2, 0, 0, 1, 999)).given(m -> m.tick(1000));
    }

    static void promise13BadArguments() {
        Edge e = withPrices(13, "DISCOUNT, MINIMUM, TAX of a tenant: 0. BAD.");
        e.given(m -> m.event(1, 0, 0, 10000, 0)).given(m -> m.terms(0, 1000, 20000, 100));
        for (int tenant : NO_TENANTS) {
            e.refused("tenant " + tenant, BAD, m -> m.terms(tenant, 0, 0, 0));
        }
        for (int rate : new int[] {-1, 10001, LEAST, MOST}) {
            e.refused("discount " + rate, BAD, m -> m.terms(0, rate, 7, 7));
            e.refused("tax " + rate, BAD, m -> m.terms(0, 7, 7, rate));
        }
        for (long minimum : new long[] {-1, MOST_MONEY + 1, Long.MIN_VALUE, Long.MAX_VALUE}) {
            e.refused("minimum " + minimum, BAD, m -> m.terms(0, 7, minimum, 7));
        }
        e.given(m -> m.tick(1000)).given(m -> m.close(0));
        e.lineIs(0, 1, DISCOUNT, NONE, 0, -1000).lineIs(0, 2, MINIMUM, NONE, 0, 11000).lineIs(0, 3, TAX, NONE, 0, 200);
        e.due("the last tenant", 0, m -> m.terms(5, 0, 0, 0));
    }

    static void promise13Greatest() {
        Edge e = billed(13, "DISCOUNT (0 .. 10000 ten-thousandths)", 10, 10000, MOST_MONEY, 10000);
        e.lineIs(0, 1, DISCOUNT, NONE, 0, -10).lineIs(0, 2, MINIMUM, NONE, 0, MOST_MONEY);
        e.lineIs(0, 3, TAX, NONE, 0, MOST_MONEY).invoiceIs(0, 4, 2 * MOST_MONEY);
        e.refused("one more", BAD, m -> m.terms(0, 10001, 0, 0));
        e = billed(13, "MINIMUM (0 .. 10^12)", 10, 9999, MOST_MONEY - 1, 9999);
        e.lineIs(0, 1, DISCOUNT, NONE, 0, -10).lineIs(0, 2, MINIMUM, NONE, 0, MOST_MONEY - 1);
        e.lineIs(0, 3, TAX, NONE, 0, 999900000000L - 1);
        e.refused("one more than the greatest", BAD, m -> m.terms(0, 0, MOST_MONEY + 1, 0));
        e = billed(13, "TAX (0 .. 10000)", 10, 0, 0, 0);
        e.invoiceIs(0, 1, 10);
        e.refused("one more than the greatest", BAD, m -> m.terms(0, 0, 0, 10001));
        e.refused("one less than the least", BAD, m -> m.terms(0, 0, 0, -1));
    }

    static void promise13OfATenant() {
        Edge e = withPrices(13, "DISCOUNT, MINIMUM, TAX of a tenant: 0.");
        e.given(m -> m.terms(0, 0, 70, 0)).given(m -> m.terms(5, 0, 500, 0)).given(m -> m.tick(1000));
        e.given(m -> m.close(0)).given(m -> m.close(5)).given(m -> m.close(4));
        e.invoiceIs(0, 1, 70).invoiceIs(1, 1, 500).invoiceIs(2, 0, 0);
    }

    static void promise14BadArguments() {
        Edge e = withPrices(14, "BAD: tenant, MONEY, or the PERIOD is not 0 .. 99 or closed;");
        for (int tenant : NO_TENANTS) {
            e.refused("tenant " + tenant, BAD, m -> m.credit(tenant, 1, 0));
        }
        for (int period : new int[] {-1, 100, LEAST, MOST}) {
            e.refused("period " + period, BAD, m -> m.credit(0, 1, period));
        }
        e.due("period 0", 0, m -> m.credit(0, 1, 0));
        e.due("period 99", 1, m -> m.credit(0, 1, 99));
        e.given(m -> m.tick(2000));
        e.due("a period that is over, but not closed", 2, m -> m.credit(0, 1, 0));
        e.given(m -> m.close(0));
        e.refused("one that is closed", BAD, m -> m.credit(0, 1, 0));
        e.due("closed for another tenant alone", 0, m -> m.credit(5, 1, 0));
        e.due("the next", 3, m -> m.credit(0, 1, 1));
        e.given(m -> m.close(0));
        e.refused("that too, closed", BAD, m -> m.credit(0, 1, 1));
        e.refused("the one before it", BAD, m -> m.credit(0, 1, 0));
        e.due("the one behind it", 4, m -> m.credit(0, 1, 2));
    }

    static void promise14Money() {
        Edge e = withPrices(14, "MONEY (1 .. 10^12), and the last PERIOD in which it is good.");
        for (long money : new long[] {0, -1, MOST_MONEY + 1, Long.MIN_VALUE, Long.MAX_VALUE}) {
            e.refused("money " + money, BAD, m -> m.credit(0, money, 0));
        }
        e.due("the least", 0, m -> m.credit(0, 1, 0));
        e.due("the greatest", 1, m -> m.credit(0, MOST_MONEY, 0));
        e.due("left of the least", 1, m -> m.left(0, 0));
        e.due("left of the greatest", MOST_MONEY, m -> m.left(0, 1));
    }

    static void promise14Numbers() {
        Edge e = withPrices(14, "A CREDIT more: its number, from 0 on for each tenant.");
        for (int i = 0; i < 6; i++) {
            int tenant = i;
            e.due("the first of tenant " + tenant, 0, m -> m.credit(tenant, 10 + tenant, 9));
            e.due("the second of tenant " + tenant, 1, m -> m.credit(tenant, 20 + tenant, 9));
        }
        for (int i = 0; i < 6; i++) {
            int tenant = i;
            e.due("left of the first", 10 + tenant, m -> m.left(tenant, 0));
            e.due("left of the second", 20 + tenant, m -> m.left(tenant, 1));
            e.refused("left of a third", BAD, m -> m.left(tenant, 2));
        }
    }

    static void promise14TenLeft() {
        Edge e = withPrices(14, "FULL: 10 have something left, or there were 40.");
        e.given(m -> m.event(1, 0, 0, 15, 0));
        for (int i = 0; i < 9; i++) {
            e.given(m -> m.credit(0, 10, 5));
        }
        e.due("with 9", 9, m -> m.credit(0, 10, 5));
        e.refused("with 10", FULL, m -> m.credit(0, 10, 5));
        e.refused("BAD, not FULL: money", BAD, m -> m.credit(0, 0, 5));
        e.refused("BAD, not FULL: period", BAD, m -> m.credit(0, 1, 100));
        e.due("of another tenant", 0, m -> m.credit(5, 10, 5));
        e.given(m -> m.tick(1000)).given(m -> m.close(0));
        e.due("all of one is used", 0, m -> m.left(0, 0));
        e.due("half of the next", 5, m -> m.left(0, 1));
        e.due("so there were 9", 10, m -> m.credit(0, 10, 5));
        e.refused("and are 10", FULL, m -> m.credit(0, 10, 5));
        e.refused("BAD, not FULL: closed", BAD, m -> m.credit(0, 10, 0));
    }

    static void promise14OneLeftIsSomething() {
        Edge e = withPrices(14, "FULL: 10 have something left");
        e.given(m -> m.event(1, 0, 0, 9, 0)).given(m -> m.credit(0, 10, 5));
        for (int i = 1; i < 10; i++) {
            e.given(m -> m.credit(0, 1, 6));
        }
        e.refused("10 of the least", FULL, m -> m.credit(0, 1, 6));
        e.given(m -> m.tick(1000)).given(m -> m.close(0));
        e.due("1 is left of 10", 1, m -> m.left(0, 0));
        e.refused("that is something", FULL, m -> m.credit(0, 1, 6));
        e.given(m -> m.event(2, 0, 0, 1, 1000)).given(m -> m.tick(1000)).given(m -> m.close(0));
        e.due("nothing is left of it", 0, m -> m.left(0, 0));
        e.due("one more", 10, m -> m.credit(0, 1, 6));
    }

    static void promise14FortyInAll() {
        Edge e = withPrices(14, "CREDITS of a tenant, 10 with something left at most, 40 in all");
        e.given(m -> m.tick(10000));
        for (int i = 0; i < 39; i++) {
            int period = i / 10;
            e.given(m -> m.credit(0, 7, period));
            if (i % 10 == 9) {
                e.given(m -> m.close(0));
            }
        }
        e.due("the 40th", 39, m -> m.credit(0, 7, 3));
        e.given(m -> m.close(0));
        e.due("none has anything left", 0, m -> m.left(0, 39));
        e.refused("a 41st", FULL, m -> m.credit(0, 7, 99));
        e.refused("BAD, not FULL", BAD, m -> m.credit(0, 0, 99));
        e.refused("left of a 41st", BAD, m -> m.left(0, 40));
        e.due("of another tenant", 0, m -> m.credit(5, 7, 99));
    }

    static void promise15Early() {
        Edge e = withPrices(15, "A tenant's PERIODS are closed in their order, from 0 on, each when NOW is behind its last minute.");
        e.given(m -> m.event(1, 0, 0, 5, 0)).given(m -> m.credit(0, 3, 0));
        e.refused("at 0", EARLY, m -> m.close(0));
        e.given(m -> m.tick(999));
        e.refused("at its last minute", EARLY, m -> m.close(0));
        e.given(m -> m.tick(1));
        e.due("one behind it", 0, m -> m.close(0));
        e.refused("the next", EARLY, m -> m.close(0));
        e.due("another tenant's", 1, m -> m.close(5));
        e.given(m -> m.tick(999));
        e.refused("at 1999", EARLY, m -> m.close(0));
        e.given(m -> m.tick(1001));
        e.due("period 1 at 3000", 2, m -> m.close(0));
        e.due("period 2 at 3000", 3, m -> m.close(0));
        e.refused("period 3 at 3000", EARLY, m -> m.close(0));
        e.due("its period", 2, m -> m.invoice(3, 1));
    }

    static void promise15EarlyKeepsAdjustments() {
        Edge e = withPrices(15, "each when NOW is behind its last minute.");
        e.given(m -> m.event(1, 0, 0, 5, 0)).given(m -> m.tick(1000)).given(m -> m.close(0)).given(m -> m.event(2, 0, 0, 6, 999));
        e.given(m -> m.tier(0, 0, 0, 1, 50, 3)).given(m -> m.credit(0, 1, 1)).given(m -> m.terms(0, 0, 200, 0));
        e.refused("with adjustments, other prices and a credit", EARLY, m -> m.close(0));
        e.given(m -> m.event(3, 0, 0, 7, 999)).given(m -> m.tick(999));
        e.refused("at its last minute", EARLY, m -> m.close(0));
        e.given(m -> m.tick(1)).given(m -> m.close(0));
        e.lineIs(1, 0, ADJUSTMENT, 0, 13, 13).lineIs(1, 1, MINIMUM, NONE, 0, 187).lineIs(1, 2, CREDIT, NONE, 0, -1);
        e.invoiceIs(1, 3, 199);
    }

    static void promise15Arguments() {
        Edge e = withPrices(15, "The tenant's next PERIOD is closed: the invoice's number, from 0 on in all."
            + " BAD; EARLY; FULL: there are 60.");
        for (int tenant : NO_TENANTS) {
            e.refused("tenant " + tenant + " at 0", BAD, m -> m.close(tenant));
        }
        e.given(m -> m.tick(1000));
        for (int tenant : NO_TENANTS) {
            e.refused("tenant " + tenant, BAD, m -> m.close(tenant));
        }
        for (int i = 0; i < 6; i++) {
            int tenant = 5 - i;
            e.due("tenant " + tenant, i, m -> m.close(tenant));
        }
    }

    static void promise15Sixty() {
        Edge e = withPrices(15, "EARLY; FULL: there are 60.");
        e.given(m -> m.event(1, 0, 0, 5, 0)).given(m -> m.credit(0, 3, 0)).given(m -> m.terms(0, 100, 100, 100));
        e.given(m -> m.tick(10000)).given(m -> m.tick(10000)).given(m -> m.tick(10000));
        for (int i = 0; i < 59; i++) {
            int tenant = i < 30 ? 1 : 2;
            e.due("invoice " + i, i, m -> m.close(tenant));
        }
        e.due("invoice 59", 59, m -> m.close(5));
        e.refused("a 61st", FULL, m -> m.close(0));
        e.refused("a 61st of one that has some", FULL, m -> m.close(5));
        e.refused("EARLY, not FULL", EARLY, m -> m.close(1));
        e.refused("BAD, not FULL", BAD, m -> m.close(6));
        e.due("60 invoices", 60, m -> m.count(4));
        e.due("the last one", 5, m -> m.invoice(59, 0));
        e.refused("none behind it", BAD, m -> m.invoice(60, 0));
        e.due("none closed", 0, m -> m.closed(0));
        e.due("no credit used", 3, m -> m.left(0, 0));
    }

    static void promise15Usage() {
        Edge e = withPrices(15, "0 USAGE: for each resource, the least first, with a QUANTITY above 0:"
            + " its COST by PRICES as they are at closing.");
        e.given(m -> m.tier(0, 1, 0, 1, 0, 0)).given(m -> m.tier(0, 2, 0, 1, 5, 70));
        e.given(m -> m.event(1, 0, 3, 1000000, 0)).given(m -> m.event(2, 1, 1, 1, 0)).given(m -> m.tick(1000));
        e.given(m -> m.close(0));
        e.lineIs(0, 0, USAGE, 1, 1, 0).lineIs(0, 1, USAGE, 3, 1000000, 1000000).invoiceIs(0, 2, 1000000);
        e.given(m -> m.tick(1000)).given(m -> m.close(0));
        e.invoiceIs(1, 0, 0);
    }

    static void promise15Quantity() {
        Edge e = withPrices(15, "QUANTITY of a resource in a PERIOD: UNITS of all ACCEPTED events of the tenant's accounts.");
        e.given(m -> m.account(0, NONE)).given(m -> m.account(0, 1));
        e.given(m -> m.event(1, 0, 0, 1, 0)).given(m -> m.event(2, 1, 0, 20, 0)).given(m -> m.event(3, 3, 0, 300, 0));
        e.given(m -> m.event(4, 4, 0, 4000, 0)).given(m -> m.event(1, 2, 0, 50000, 0));
        e.refused("DUPLICATE", DUPLICATE, m -> m.event(4, 0, 0, 600000, 0));
        e.given(m -> m.request(4, 0, 700000)).given(m -> m.request(0, 0, 9)).given(m -> m.settle(1, 8, 5));
        e.given(m -> m.tick(1000)).given(m -> m.event(6, 0, 0, 10000, 999)).given(m -> m.event(7, 0, 0, 100000, 1000));
        e.given(m -> m.close(0)).given(m -> m.close(5));
        e.lineIs(0, 0, USAGE, 0, 14329, 14329).invoiceIs(0, 1, 14329);
        e.lineIs(1, 0, USAGE, 0, 50000, 0).invoiceIs(1, 1, 0);
        e.given(m -> m.tick(1000)).given(m -> m.close(0));
        e.lineIs(2, 0, USAGE, 0, 100000, 100000).invoiceIs(2, 1, 100000);
    }

    static void promise15Adjustments() {
        Edge e = withPrices(15, "1 ADJUSTMENT: for each resource with some: QUANTITY of all of them together, MONEY likewise.");
        e.given(m -> m.tier(0, 2, 0, 1, 0, 0)).given(m -> m.tick(1000)).given(m -> m.close(0));
        e.given(m -> m.event(1, 1, 3, 7, 999)).given(m -> m.event(2, 0, 3, 8, 998)).given(m -> m.event(3, 0, 2, 1, 999));
        e.refused("a duplicate", DUPLICATE, m -> m.event(3, 0, 0, 1, 999));
        e.given(m -> m.event(4, 2, 0, 9, 999)).given(m -> m.event(4, 0, 0, 2, 1000)).given(m -> m.tick(1000));
        e.given(m -> m.close(0)).given(m -> m.close(5));
        e.invoiceIs(0, 0, 0);
        e.lineIs(1, 0, USAGE, 0, 2, 2).lineIs(1, 1, ADJUSTMENT, 2, 1, 0).lineIs(1, 2, ADJUSTMENT, 3, 15, 15).invoiceIs(1, 3, 17);
        e.lineIs(2, 0, USAGE, 0, 9, 0).invoiceIs(2, 1, 0);
    }

    static void promise15NextPeriodClosed() {
        Edge e = withPrices(15, "An ADJUSTMENT is of the next PERIOD that the tenant closes");
        e.given(m -> m.tick(1000)).given(m -> m.close(0)).given(m -> m.event(1, 0, 0, 5, 999)).given(m -> m.tick(1000));
        e.given(m -> m.event(2, 0, 0, 30, 1999)).given(m -> m.tick(1000)).given(m -> m.close(0)).given(m -> m.close(0));
        e.lineIs(1, 0, USAGE, 0, 30, 30).lineIs(1, 1, ADJUSTMENT, 0, 5, 5).invoiceIs(1, 2, 35).invoiceIs(2, 0, 0);
        e.due("late for the period closed last", 1, m -> m.event(3, 0, 0, 600, 2500));
        e.refused("too late for it", LATE, m -> m.event(4, 0, 0, 600, 2499));
        e.given(m -> m.tick(1000)).given(m -> m.close(0));
        e.lineIs(3, 0, ADJUSTMENT, 0, 600, 600).invoiceIs(3, 1, 600);
        e.given(m -> m.tick(1000)).given(m -> m.close(0));
        e.invoiceIs(4, 0, 0);
    }

    static void promise15AdjustmentMoney() {
        Edge e = withPrices(15, "its MONEY is COST of the QUANTITY of its own (closed) PERIOD with it, less COST of that without it");
        e.given(m -> m.tier(0, 0, 0, 10, 3, 100)).given(m -> m.tier(0, 0, 1, 1, 2, 1000));
        e.given(m -> m.event(1, 1, 0, 8, 0)).given(m -> m.tick(1000)).given(m -> m.close(0));
        e.given(m -> m.event(2, 0, 0, 2, 999)).given(m -> m.event(3, 0, 1, 4, 999)).given(m -> m.tick(1000)).given(m -> m.close(0));
        e.lineIs(1, 0, ADJUSTMENT, 0, 2, 6).lineIs(1, 1, ADJUSTMENT, 1, 4, 4).invoiceIs(1, 2, 10);
        e = withPrices(15, "its MONEY is COST of the QUANTITY of its own (closed) PERIOD with it");
        e.given(m -> m.tier(0, 0, 0, 10, 3, 100)).given(m -> m.tier(0, 0, 1, 1, 2, 1000));
        e.given(m -> m.event(1, 1, 0, 8, 0)).given(m -> m.tick(1000)).given(m -> m.close(0));
        e.given(m -> m.event(2, 0, 0, 2, 999)).given(m -> m.event(3, 1, 0, 1, 999)).given(m -> m.event(4, 1, 0, 1, 999));
        e.given(m -> m.event(5, 0, 0, 5, 1000)).given(m -> m.tick(1000)).given(m -> m.close(0));
        e.lineIs(1, 0, USAGE, 0, 5, 115).lineIs(1, 1, ADJUSTMENT, 0, 4, 6 + 1002 + 2).invoiceIs(1, 2, 1125);
    }

    static void promise15AdjustmentFromNothing() {
        Edge e = withPrices(15, "less COST of that without it, by PRICES as they were when that was closed.");
        e.given(m -> m.tier(0, 0, 0, 1, 3, 100)).given(m -> m.tick(1000)).given(m -> m.close(0));
        e.given(m -> m.event(1, 0, 0, 1, 999)).given(m -> m.event(2, 0, 0, 1, 999)).given(m -> m.tick(1000)).given(m -> m.close(0));
        e.lineIs(1, 0, ADJUSTMENT, 0, 2, 106).invoiceIs(1, 1, 106);
    }

    static void promise15PricesOfThen() {
        Edge e = withPrices(15, "by PRICES as they were when that was closed.");
        e.given(m -> m.mode(0, 0, 2, 10)).given(m -> m.tier(0, 0, 0, 20, 7, 0)).given(m -> m.tier(0, 0, 1, 1, 5, 300));
        e.given(m -> m.event(1, 0, 0, 20, 0)).given(m -> m.tick(1000)).given(m -> m.close(0));
        e.given(m -> m.event(2, 0, 0, 1, 999));
        e.given(m -> m.tiers(0, 0, 1)).given(m -> m.tier(0, 0, 0, 1, 1000, 9)).given(m -> m.mode(0, 0, 0, 1));
        e.given(m -> m.event(3, 0, 0, 10, 999)).given(m -> m.event(4, 0, 0, 1, 1000)).given(m -> m.tick(1000)).given(m -> m.close(0));
        e.lineIs(0, 0, USAGE, 0, 20, 14);
        e.lineIs(1, 0, USAGE, 0, 1, 1009).lineIs(1, 1, ADJUSTMENT, 0, 11, 305 + 5).invoiceIs(1, 2, 1319);
        e.given(m -> m.tier(0, 0, 0, 1, 1, 1)).given(m -> m.event(5, 0, 0, 2, 1999)).given(m -> m.tick(1000)).given(m -> m.close(0));
        e.lineIs(2, 0, ADJUSTMENT, 0, 2, 2000).invoiceIs(2, 1, 2000);
    }

    static void promise15AtClosing() {
        Edge e = withPrices(15, "PRICES, SIZE, DISCOUNT, MINIMUM, TAX count as they are at closing.");
        e.given(m -> m.event(1, 0, 0, 100, 0)).given(m -> m.terms(0, 1, 1, 1)).given(m -> m.mode(0, 0, 2, 1)).given(m -> m.tick(1000));
        e.given(m -> m.mode(0, 0, 2, 30)).given(m -> m.tier(0, 0, 0, 1, 25, 0)).given(m -> m.terms(0, 5000, 60, 1000));
        e.given(m -> m.close(0));
        e.given(m -> m.mode(0, 0, 0, 1)).given(m -> m.tier(0, 0, 0, 1, 1, 1)).given(m -> m.terms(0, 0, 0, 0));
        e.lineIs(0, 0, USAGE, 0, 100, 100).lineIs(0, 1, DISCOUNT, NONE, 0, -50).lineIs(0, 2, MINIMUM, NONE, 0, 10);
        e.lineIs(0, 3, TAX, NONE, 0, 6).invoiceIs(0, 4, 66);
    }

    /** Sum, discount, and the part of the sum that is due. */
    private static final long[][] PARTS = {
        {1, 5000, 0}, {2, 5000, 1}, {3, 5000, 2}, {5, 5000, 2}, {7, 5000, 4}, {4999, 1, 0}, {5000, 1, 0}, {5001, 1, 1},
        {14999, 1, 1}, {15000, 1, 2}, {15001, 1, 2}, {24999, 1, 2}, {25000, 1, 2}, {25001, 1, 3}, {9999, 10000, 9999}, {1, 9999, 1},
        {1, 4999, 0}, {1, 5001, 1}, {3, 4999, 1}, {3, 5001, 2}, {5, 4999, 2}, {5, 5001, 3}, {10000, 1, 1}, {1000000, 3333, 333300}
    };

    static void promise15DiscountRounded() {
        for (long[] row : PARTS) {
            Edge e = billed(15, "2 DISCOUNT: less the part of the sum S of these that DISCOUNT (0 .. 10000 ten-thousandths) tells,"
                + " if that part is not 0", (int) row[0], (int) row[1], 0, 0);
            if (row[2] != 0) {
                e.lineIs(0, 1, DISCOUNT, NONE, 0, -row[2]);
            }
            e.invoiceIs(0, row[2] == 0 ? 1 : 2, row[0] - row[2]);
        }
    }

    static void promise15TaxRounded() {
        for (long[] row : PARTS) {
            Edge e = billed(15, "4 TAX: the part that TAX (0 .. 10000) tells of the sum so far, if that part is not 0.",
                (int) row[0], 0, 0, (int) row[1]);
            if (row[2] != 0) {
                e.lineIs(0, 1, TAX, NONE, 0, row[2]);
            }
            e.invoiceIs(0, row[2] == 0 ? 1 : 2, row[0] + row[2]);
        }
    }

    static void promise15TaxOfTheSumSoFar() {
        Edge e = billed(15, "TAX (0 .. 10000) tells of the sum so far", 1000, 1000, 1200, 1000);
        e.lineIs(0, 1, DISCOUNT, NONE, 0, -100).lineIs(0, 2, MINIMUM, NONE, 0, 300).lineIs(0, 3, TAX, NONE, 0, 120);
        e.invoiceIs(0, 4, 1320);
        e = billed(15, "4 TAX: the part that TAX (0 .. 10000) tells", 1000, 10000, 0, 10000);
        e.lineIs(0, 1, DISCOUNT, NONE, 0, -1000).invoiceIs(0, 2, 0);
    }

    static void promise15DiscountBelowZero() {
        for (long[] row : PARTS) {
            int sum = (int) -row[0];
            int discount = (int) row[1];
            Edge e = belowZero(15, "(of an S below 0 it is below 0)", sum);
            e.given(m -> m.terms(0, discount, 0, 0)).given(m -> m.close(0));
            e.lineIs(1, 0, ADJUSTMENT, 0, 1, sum);
            int line = 1;
            if (row[2] != 0) {
                e.lineIs(1, line++, DISCOUNT, NONE, 0, row[2]);
            }
            if (row[2] != row[0]) {
                e.lineIs(1, line++, MINIMUM, NONE, 0, row[0] - row[2]);
            }
            e.invoiceIs(1, line, 0);
        }
    }

    static void promise15DiscountOfUsageAndAdjustments() {
        Edge e = withPrices(15, "less the part of the sum S of these that DISCOUNT");
        e.given(m -> m.tick(1000)).given(m -> m.close(0)).given(m -> m.event(1, 0, 0, 1, 999)).given(m -> m.event(2, 0, 1, 2, 1000));
        e.given(m -> m.terms(0, 5000, 0, 0)).given(m -> m.tick(1000)).given(m -> m.close(0));
        e.lineIs(1, 2, DISCOUNT, NONE, 0, -2).invoiceIs(1, 3, 1);
    }

    static void promise15Minimum() {
        Edge e = billed(15, "3 MINIMUM: what lacks of MINIMUM (0 .. 10^12) then, if something does.", 100, 1000, 90, 0);
        e.lineIs(0, 1, DISCOUNT, NONE, 0, -10).invoiceIs(0, 2, 90);
        e = billed(15, "3 MINIMUM: what lacks of MINIMUM (0 .. 10^12) then", 100, 1000, 91, 0);
        e.lineIs(0, 2, MINIMUM, NONE, 0, 1).invoiceIs(0, 3, 91);
        e = billed(15, "what lacks of MINIMUM (0 .. 10^12) then, if something does.", 100, 1000, 89, 0);
        e.invoiceIs(0, 2, 90);
        e.given(m -> m.tick(1000)).given(m -> m.close(0));
        e.lineIs(1, 0, MINIMUM, NONE, 0, 89).invoiceIs(1, 1, 89);
        e.given(m -> m.terms(0, 0, 0, 0)).given(m -> m.tick(1000)).given(m -> m.close(0));
        e.invoiceIs(2, 0, 0);
    }

    static void promise15MinimumOfASumBelowZero() {
        Edge e = belowZero(15, "what lacks of MINIMUM (0 .. 10^12) then", -1);
        e.given(m -> m.close(0));
        e.lineIs(1, 1, MINIMUM, NONE, 0, 1).invoiceIs(1, 2, 0);
        e = belowZero(15, "3 MINIMUM: what lacks of MINIMUM", -1000000);
        e.given(m -> m.terms(0, 0, MOST_MONEY, 0)).given(m -> m.close(0));
        e.lineIs(1, 1, MINIMUM, NONE, 0, MOST_MONEY + 1000000).invoiceIs(1, 2, MOST_MONEY);
        e = belowZero(15, "what lacks of MINIMUM (0 .. 10^12) then, if something does.", 0);
        e.given(m -> m.close(0));
        e.lineIs(1, 0, ADJUSTMENT, 0, 1, 0).invoiceIs(1, 1, 0);
    }

    static void promise15RoundedParts() {
        for (int sum = 1; sum <= 41; sum += 2) {
            long half = sum % 4 == 1 ? sum / 2 : sum / 2 + 1;
            Edge e = billed(15, "Parts are rounded to the nearest whole number, halves to the even one.", sum, 5000, 0, 0);
            e.due("what half of " + sum + " leaves", sum - half, m -> m.invoice(0, 3));
            e = billed(15, "Parts are rounded to the nearest whole number, halves to the even one.", sum, 0, 0, 5000);
            e.due(sum + " and half of it", sum + half, m -> m.invoice(0, 3));
        }
    }

    static void promise15QuantityIsZero() {
        Edge e = withPrices(15, "QUANTITY is 0 from 2 on.");
        e.given(m -> m.event(1, 0, 0, 1000, 0)).given(m -> m.terms(0, 100, 2000, 100)).given(m -> m.credit(0, 5, 0));
        e.given(m -> m.tick(1000)).given(m -> m.close(0));
        e.lineIs(0, 0, USAGE, 0, 1000, 1000).lineIs(0, 1, DISCOUNT, NONE, 0, -10).lineIs(0, 2, MINIMUM, NONE, 0, 1010);
        e.lineIs(0, 3, TAX, NONE, 0, 20).lineIs(0, 4, CREDIT, NONE, 0, -5).invoiceIs(0, 5, 2015);
    }

    private static Edge withUse(String sentence, int units) {
        return withPrices(15, sentence).given(m -> m.event(1, 0, 0, units, 0));
    }

    static void promise15CreditAgainstTheSum() {
        for (long k = 99; k <= 101; k++) {
            long money = k;
            long used = Math.min(money, 100);
            Edge e = withUse("is used: all that it has, or as much as the sum.", 100);
            e.given(m -> m.credit(0, money, 1)).given(m -> m.credit(0, 5, 2)).given(m -> m.tick(1000)).given(m -> m.close(0));
            e.lineIs(0, 1, CREDIT, NONE, 0, -used);
            e.due("left of the first", money - used, m -> m.left(0, 0));
            e.due("left of the second", money < 100 ? 4 : 5, m -> m.left(0, 1));
            e.invoiceIs(0, money < 100 ? 3 : 2, 0);
        }
    }

    static void promise15CreditsNotEnough() {
        Edge e = withUse("5 CREDIT: for each CREDIT used, less what is used of it.", 100);
        e.given(m -> m.credit(0, 60, 1)).given(m -> m.credit(0, 39, 1)).given(m -> m.tick(1000)).given(m -> m.close(0));
        e.lineIs(0, 1, CREDIT, NONE, 0, -60).lineIs(0, 2, CREDIT, NONE, 0, -39).invoiceIs(0, 3, 1);
        e.given(m -> m.event(2, 0, 0, 1, 1000)).given(m -> m.tick(1000)).given(m -> m.close(0));
        e.invoiceIs(1, 1, 1);
    }

    static void promise15TheLastOfFortyCredits() {
        Edge e = withPrices(15, "5 CREDIT: for each CREDIT used");
        e.given(m -> m.tick(10000));
        for (int i = 0; i < 40; i++) {
            int period = i / 10;
            e.given(m -> m.credit(0, 7, period));
            if (i % 10 == 9 && i < 39) {
                e.given(m -> m.close(0));
            }
        }
        e.given(m -> m.terms(0, 0, 69, 0)).given(m -> m.close(0));
        e.lineIs(3, 1, CREDIT, NONE, 0, -7).lineIs(3, 10, CREDIT, NONE, 0, -6).invoiceIs(3, 11, 0);
        e.given(m -> m.close(0));
        e.invoiceIs(4, 1, 69);
    }

    static void promise15CreditForASumAboveZero() {
        Edge e = withPrices(15, "As long as the sum of the LINES is above 0");
        e.given(m -> m.credit(0, 50, 9)).given(m -> m.tick(1000)).given(m -> m.close(0));
        e.invoiceIs(0, 0, 0);
        e.due("none for no line", 50, m -> m.left(0, 0));
        e.given(m -> m.event(1, 0, 0, 7, 1000)).given(m -> m.terms(0, 10000, 0, 0)).given(m -> m.tick(1000)).given(m -> m.close(0));
        e.lineIs(1, 1, DISCOUNT, NONE, 0, -7).invoiceIs(1, 2, 0);
        e.due("none for a sum of 0", 50, m -> m.left(0, 0));
        e.given(m -> m.terms(0, 0, 1, 0)).given(m -> m.tick(1000)).given(m -> m.close(0));
        e.lineIs(2, 1, CREDIT, NONE, 0, -1).invoiceIs(2, 2, 0);
        e.due("one for a sum of 1", 49, m -> m.left(0, 0));
    }

    static void promise15CreditsThatAreGood() {
        Edge e = withPrices(15, "of those that are good in that PERIOD, and have something left");
        e.given(m -> m.credit(0, 30, 0)).given(m -> m.credit(0, 30, 1)).given(m -> m.credit(0, 30, 99)).given(m -> m.credit(5, 30, 99));
        e.given(m -> m.terms(0, 0, 40, 0)).given(m -> m.tick(3000)).given(m -> m.close(0)).given(m -> m.close(0)).given(m -> m.close(0));
        e.lineIs(0, 1, CREDIT, NONE, 0, -30).lineIs(0, 2, CREDIT, NONE, 0, -10).invoiceIs(0, 3, 0);
        e.lineIs(1, 1, CREDIT, NONE, 0, -20).lineIs(1, 2, CREDIT, NONE, 0, -20).invoiceIs(1, 3, 0);
        e.lineIs(2, 1, CREDIT, NONE, 0, -10).invoiceIs(2, 2, 30);
        e.due("another tenant's", 30, m -> m.left(5, 0));
    }

    static void promise15LeastLastPeriodFirst() {
        Edge e = withUse("that with the least last PERIOD, of several the one that came first, is used", 25);
        e.given(m -> m.credit(0, 1, 3)).given(m -> m.credit(0, 2, 1)).given(m -> m.credit(0, 4, 0)).given(m -> m.credit(0, 8, 1));
        e.given(m -> m.credit(0, 16, 2)).given(m -> m.credit(0, 32, 2)).given(m -> m.tick(1000)).given(m -> m.close(0));
        e.lineIs(0, 1, CREDIT, NONE, 0, -4).lineIs(0, 2, CREDIT, NONE, 0, -2).lineIs(0, 3, CREDIT, NONE, 0, -8);
        e.lineIs(0, 4, CREDIT, NONE, 0, -11).invoiceIs(0, 5, 0);
        long[] left = {1, 0, 0, 0, 5, 32};
        for (int i = 0; i < left.length; i++) {
            int credit = i;
            e.due("left of " + credit, left[credit], m -> m.left(0, credit));
        }
    }

    static void promise15AllLines() {
        Edge e = withPrices(15, "THE INVOICE has LINES (kind, resource or NONE, QUANTITY, MONEY), in this order:");
        e.given(m -> m.tick(1000)).given(m -> m.close(0)).given(m -> m.terms(0, 5000, 100, 1000));
        for (int i = 3; i >= 0; i--) {
            int resource = i;
            e.given(m -> m.event(resource, 0, resource, 10 + resource, 999));
            e.given(m -> m.event(10 + resource, 0, resource, 20 + resource, 1000));
        }
        for (int i = 0; i < 10; i++) {
            int order = i;
            e.given(m -> m.credit(0, 1 + order, 99 - order));
        }
        e.given(m -> m.tick(1000)).given(m -> m.close(0));
        for (int i = 0; i < 4; i++) {
            e.lineIs(1, i, USAGE, i, 20 + i, 20 + i).lineIs(1, 4 + i, ADJUSTMENT, i, 10 + i, 10 + i);
        }
        e.lineIs(1, 8, DISCOUNT, NONE, 0, -66).lineIs(1, 9, MINIMUM, NONE, 0, 34).lineIs(1, 10, TAX, NONE, 0, 10);
        for (int i = 0; i < 10; i++) {
            e.lineIs(1, 11 + i, CREDIT, NONE, 0, i - 10);
        }
        e.invoiceIs(1, 21, 55);
    }

    static void promise15GreatestSums() {
        Edge e = withPrices(15, "all in whole millionths");
        e.given(m -> m.tier(0, 0, 0, 1, 1000000, 1000000000));
        for (int i = 0; i < 300; i++) {
            long key = 1000 + i;
            e.given(m -> m.event(key, 1, 0, 1000000, 0));
        }
        e.given(m -> m.terms(0, 3333, MOST_MONEY, 10000)).given(m -> m.tick(1000)).given(m -> m.close(0));
        e.lineIs(0, 0, USAGE, 0, 300000000, 300001000000000L).lineIs(0, 1, DISCOUNT, NONE, 0, -99990333300000L);
        e.lineIs(0, 2, TAX, NONE, 0, 200010666700000L).invoiceIs(0, 3, 400021333400000L);
    }

    static void promise20Lines() {
        Edge e = withPrices(20, "Of a LINE of an invoice: what = 0 its kind, 1 its resource, 2 QUANTITY, 3 MONEY."
            + " BAD: there is none such, another what.");
        e.refused("no invoice yet", BAD, m -> m.line(0, 0, 0));
        e.given(m -> m.event(1, 0, 3, 6, 0)).given(m -> m.terms(0, 5000, 0, 0)).given(m -> m.tick(1000));
        e.given(m -> m.close(0)).given(m -> m.close(5));
        e.lineIs(0, 0, USAGE, 3, 6, 6).lineIs(0, 1, DISCOUNT, NONE, 0, -3);
        for (int what : new int[] {-1, 4, LEAST, MOST}) {
            e.refused("what " + what, BAD, m -> m.line(0, 0, what));
        }
        for (int line : new int[] {-1, 2, 20, 21, LEAST, MOST}) {
            e.refused("line " + line, BAD, m -> m.line(0, line, 0));
        }
        for (int invoice : new int[] {-1, 2, 59, 60, LEAST, MOST}) {
            e.refused("invoice " + invoice, BAD, m -> m.line(invoice, 0, 0));
        }
        e.refused("a line of one without any", BAD, m -> m.line(1, 0, 0));
    }

    static void promise21Invoices() {
        Edge e = withPrices(21, "Of an invoice: what = 0 its tenant, 1 PERIOD, 2 LINES, 3 the sum of their MONEY."
            + " BAD: there is none such, another what.");
        e.refused("no invoice yet", BAD, m -> m.invoice(0, 0));
        e.given(m -> m.event(1, 0, 3, 6, 0)).given(m -> m.terms(0, 5000, 0, 0)).given(m -> m.tick(2000));
        e.given(m -> m.close(0)).given(m -> m.close(5)).given(m -> m.close(5));
        long[][] want = {{0, 0, 2, 3}, {5, 0, 0, 0}, {5, 1, 0, 0}};
        for (int i = 0; i < 12; i++) {
            int invoice = i / 4;
            int what = i % 4;
            e.due("invoice(" + invoice + ", " + what + ")", want[invoice][what], m -> m.invoice(invoice, what));
        }
        for (int what : new int[] {-1, 4, LEAST, MOST}) {
            e.refused("what " + what, BAD, m -> m.invoice(2, what));
        }
        for (int invoice : new int[] {-1, 3, 59, 60, LEAST, MOST}) {
            e.refused("invoice " + invoice, BAD, m -> m.invoice(invoice, 0));
        }
    }

    static void promise22BadArguments() {
        Edge e = withPrices(22, "What is left of a CREDIT. BAD: there is none such.");
        e.refused("none yet", BAD, m -> m.left(0, 0));
        e.given(m -> m.credit(0, 1, 0)).given(m -> m.credit(0, MOST_MONEY, 99));
        for (int tenant : NO_TENANTS) {
            e.refused("tenant " + tenant, BAD, m -> m.left(tenant, 0));
        }
        for (int credit : new int[] {-1, 2, 39, 40, LEAST, MOST}) {
            e.refused("credit " + credit, BAD, m -> m.left(0, credit));
        }
        e.refused("another tenant's", BAD, m -> m.left(5, 0));
        e.due("the first", 1, m -> m.left(0, 0));
        e.due("the last", MOST_MONEY, m -> m.left(0, 1));
    }

    static void promise22LastPeriodClosed() {
        Edge e = withPrices(22, "One whose last PERIOD is closed has nothing left.");
        e.given(m -> m.credit(0, 10, 0)).given(m -> m.credit(0, 20, 1)).given(m -> m.credit(5, 30, 0)).given(m -> m.tick(2000));
        e.due("over, but not closed", 10, m -> m.left(0, 0));
        e.given(m -> m.close(0));
        e.due("closed", 0, m -> m.left(0, 0));
        e.due("good in the next", 20, m -> m.left(0, 1));
        e.due("another tenant's", 30, m -> m.left(5, 0));
        e.given(m -> m.terms(0, 0, 7, 0)).given(m -> m.close(0));
        e.lineIs(1, 1, CREDIT, NONE, 0, -7);
        e.due("partly used, and closed", 0, m -> m.left(0, 1));
    }

    static void promise24Closed() {
        Edge e = withPrices(24, "How many PERIODS of a tenant are closed. BAD.");
        for (int tenant : NO_TENANTS) {
            e.refused("tenant " + tenant, BAD, m -> m.closed(tenant));
        }
        e.given(m -> m.tick(999));
        e.refused("EARLY", EARLY, m -> m.close(5));
        e.due("none", 0, m -> m.closed(5));
        e.given(m -> m.tick(1)).given(m -> m.close(5));
        e.due("one", 1, m -> m.closed(5));
        e.due("none of another", 0, m -> m.closed(0));
        e.refused("EARLY again", EARLY, m -> m.close(5));
        e.due("one still", 1, m -> m.closed(5));
    }

    static void promise24Sixty() {
        Edge e = withPrices(24, "How many PERIODS of a tenant are closed.");
        for (int i = 0; i < 9; i++) {
            e.given(m -> m.tick(10000));
        }
        for (int i = 0; i < 60; i++) {
            e.given(m -> m.close(0));
        }
        e.due("as many as there can be", 60, m -> m.closed(0));
        e.refused("one more", FULL, m -> m.close(0));
        e.refused("a credit for the last closed", BAD, m -> m.credit(0, 1, 59));
        e.due("a credit for the next", 0, m -> m.credit(0, 1, 60));
    }
}
