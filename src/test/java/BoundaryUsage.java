/**
 * The boundaries of promises 1 (a new object), 2 (account), 3 (tick), 4 (event), 16 (used) and 23 (count),
 * sentence by sentence.
 */
final class BoundaryUsage {
    private static final int NONE = -1, BAD = -2, FULL = -3, EARLY = -4, LATE = -5, DUPLICATE = -6;
    private static final int LEAST = Integer.MIN_VALUE, MOST = Integer.MAX_VALUE;

    /** Accounts 0, 1 in 0 and 2 in 1 of tenant 0; 3 of tenant 5. */
    private static Edge withAccounts(int promise, String sentence) {
        Edge e = new Edge(promise, sentence);
        e.given(m -> m.account(0, NONE)).given(m -> m.account(0, 0)).given(m -> m.account(0, 1));
        return e.given(m -> m.account(5, NONE));
    }

    static void promise1NothingIsThere() {
        Edge e = new Edge(1, "No accounts, events, invoices; NOW is 0");
        for (int i = 0; i < 5; i++) {
            int what = i;
            e.due("count(" + what + ")", 0, m -> m.count(what));
        }
        for (int i = 0; i < 6; i++) {
            int tenant = i;
            e.due("closed periods", 0, m -> m.closed(tenant));
            e.refused("a credit", BAD, m -> m.left(tenant, 0));
            e.refused("a period to close", EARLY, m -> m.close(tenant));
        }
        e.refused("a minute behind 0", BAD, m -> m.event(1, 0, 0, 1, 0));
        e.refused("an account's use", BAD, m -> m.used(0, 0, 0));
        e.refused("an account's limit", BAD, m -> m.limit(0, 0, 1));
        e.refused("an account's request", BAD, m -> m.request(0, 0, 1));
        e.refused("an account's holding", BAD, m -> m.held(0, 0));
        e.refused("an account's room", BAD, m -> m.room(0, 0));
        e.refused("an account to lie in", BAD, m -> m.account(0, 0));
        e.refused("a hold", BAD, m -> m.hold(0, 0));
        e.refused("a hold to settle", BAD, m -> m.settle(0, 0, 1));
        e.refused("a hold to drop", BAD, m -> m.drop(0));
        e.refused("an invoice", BAD, m -> m.invoice(0, 0));
        e.refused("a line", BAD, m -> m.line(0, 0, 0));
    }

    static void promise1TermsAtFirst() {
        for (int i = 0; i < 6; i++) {
            int tenant = i;
            Edge e = new Edge(1, "SIZES are 1, DISCOUNTS, MINIMA, TAXES 0.");
            e.given(m -> m.account(tenant, NONE)).given(m -> m.tier(tenant, 0, 0, 1, 1000000, 0));
            e.given(m -> m.event(1, 0, 0, 1000000, 0)).given(m -> m.tick(2000));
            e.given(m -> m.close(tenant)).given(m -> m.close(tenant));
            e.lineIs(0, 0, 0, 0, 1000000, 1000000000000L).invoiceIs(0, 1, 1000000000000L);
            e.invoiceIs(1, 0, 0);
        }
    }

    static void promise1PricesAtFirst() {
        for (int i = 0; i < 24; i++) {
            int tenant = i / 4;
            int resource = i % 4;
            Edge e = new Edge(1, "At first MODE 0, one TIER, its LAST 1, PRICE 0, FEE 0.");
            e.due("price and fee", 0, m -> m.cost(tenant, resource, 1));
            e.due("of all units", 0, m -> m.cost(tenant, resource, 10000000000L));
            e.due("one tier", 1, m -> m.tiers(tenant, resource, 5));
            e.refused("no tier 1 to alter, so none behind it", BAD, m -> m.tier(tenant, resource, 2, 2, 1, 1));
            e.given(m -> m.tier(tenant, resource, 1, 2, 10, 7));
            e.due("LAST 1: a unit", 0, m -> m.cost(tenant, resource, 1));
            e.due("LAST 1: one behind it", 17, m -> m.cost(tenant, resource, 2));
            e.given(m -> m.tier(tenant, resource, 0, 1, 3, 5));
            e.due("MODE 0: each tier's price and fee", 25, m -> m.cost(tenant, resource, 2));
        }
    }

    private interface Numbered {
        long on(QuotaMeter m, int number);
    }

    /** Each call that takes a tenant or a resource, by its promise: those that there are, and one to each side of them. */
    private static void tryNumbers(int promise, int last, Numbered call) {
        Edge e = withAccounts(promise, "TENANTS are 0 .. 5, RESOURCES 0 .. 3.");
        for (int i = 0; i < 6; i++) {
            int tenant = i;
            e.given(m -> m.credit(tenant, 3, 99));
        }
        e.given(m -> m.tick(1000));
        e.refused("-1", BAD, m -> call.on(m, -1));
        e.refused("one behind the last", BAD, m -> call.on(m, last + 1));
        for (int i = 0; i <= last; i++) {
            int number = i;
            e.given(m -> call.on(m, number));
        }
        e.refused("one behind the last, when the others were taken", BAD, m -> call.on(m, last + 1));
    }

    static void promise2Tenants() {
        tryNumbers(2, 5, (m, tenant) -> m.account(tenant, NONE));
        tryNumbers(9, 5, (m, tenant) -> m.mode(tenant, 0, 1, 2));
        tryNumbers(10, 5, (m, tenant) -> m.tier(tenant, 0, 1, 2, 3, 4));
        tryNumbers(11, 5, (m, tenant) -> m.tiers(tenant, 0, 1));
        tryNumbers(12, 5, (m, tenant) -> m.cost(tenant, 0, 1));
        tryNumbers(13, 5, (m, tenant) -> m.terms(tenant, 1, 2, 3));
        tryNumbers(14, 5, (m, tenant) -> m.credit(tenant, 1, 99));
        tryNumbers(15, 5, (m, tenant) -> m.close(tenant));
        tryNumbers(22, 5, (m, tenant) -> m.left(tenant, 0));
        tryNumbers(24, 5, (m, tenant) -> m.closed(tenant));
    }

    static void promise4Resources() {
        tryNumbers(4, 3, (m, resource) -> m.event(resource, 0, resource, 1, 1000));
        tryNumbers(5, 3, (m, resource) -> m.limit(0, resource, 5));
        tryNumbers(6, 3, (m, resource) -> m.request(0, resource, 1));
        tryNumbers(9, 3, (m, resource) -> m.mode(0, resource, 1, 2));
        tryNumbers(10, 3, (m, resource) -> m.tier(0, resource, 1, 2, 3, 4));
        tryNumbers(11, 3, (m, resource) -> m.tiers(0, resource, 1));
        tryNumbers(12, 3, (m, resource) -> m.cost(0, resource, 1));
        tryNumbers(16, 3, (m, resource) -> m.used(0, resource, 0));
        tryNumbers(17, 3, (m, resource) -> m.held(0, resource));
        tryNumbers(18, 3, (m, resource) -> m.room(0, resource));
    }

    static void promise2LiesInAnother() {
        Edge e = withAccounts(2, "each is one of a tenant, and lies in another one of the same, or in none.");
        e.due("beside account 0, in none", 4, m -> m.account(0, NONE));
        e.due("in account 3", 5, m -> m.account(5, 3));
        e.refused("in itself", BAD, m -> m.account(5, 6));
        e.refused("in another tenant's", BAD, m -> m.account(5, 2));
        e.given(m -> m.event(1, 5, 0, 7, 0)).given(m -> m.event(1, 4, 0, 8, 0));
        e.due("what lies in 3 is used by it", 7, m -> m.used(3, 0, 0));
        e.due("what lies in none is used by no other", 0, m -> m.used(0, 0, 0));
    }

    static void promise2TwentyFour() {
        Edge e = new Edge(2, "ACCOUNTS, 24 in all, are numbered from 0 on as they come");
        for (int i = 0; i < 24; i++) {
            int tenant = i % 6;
            e.due("account " + i, i, m -> m.account(tenant, NONE));
        }
        e.refused("a 25th", FULL, m -> m.account(0, NONE));
        e.due("there are 24", 24, m -> m.count(1));
        e.due("the last one is there", 0, m -> m.used(23, 3, 99));
        e.refused("none behind it", BAD, m -> m.used(24, 3, 99));
    }

    static void promise2Full() {
        Edge e = new Edge(2, "FULL: there are 24.");
        for (int i = 0; i < 23; i++) {
            e.given(m -> m.account(0, NONE));
        }
        e.due("with 23", 23, m -> m.account(5, NONE));
        e.refused("with 24, in none", FULL, m -> m.account(5, NONE));
        e.refused("with 24, in the last", FULL, m -> m.account(5, 23));
        e.refused("what is BAD stays so: tenant", BAD, m -> m.account(6, NONE));
        e.refused("what is BAD stays so: in", BAD, m -> m.account(5, 24));
        e.refused("what is BAD stays so: another tenant's", BAD, m -> m.account(0, 23));
    }

    static void promise2Tenant() {
        Edge e = new Edge(2, "BAD: no such tenant");
        for (int tenant : new int[] {-1, 6, LEAST, MOST}) {
            e.refused("tenant " + tenant, BAD, m -> m.account(tenant, NONE));
        }
        e.due("tenant 0", 0, m -> m.account(0, NONE));
        e.due("tenant 5", 1, m -> m.account(5, NONE));
        e.refused("tenant 6 in an account", BAD, m -> m.account(6, 1));
        e.refused("tenant -1 in an account", BAD, m -> m.account(-1, 0));
    }

    static void promise2In() {
        Edge e = new Edge(2, "in is neither NONE nor an account of that one");
        for (int in : new int[] {-2, 0, 1, 23, 24, LEAST, MOST}) {
            e.refused("in " + in + " when there is none", BAD, m -> m.account(2, in));
        }
        e.due("NONE", 0, m -> m.account(2, NONE));
        e.refused("its own number to be", BAD, m -> m.account(2, 1));
        e.refused("another tenant's", BAD, m -> m.account(3, 0));
        e.refused("-2", BAD, m -> m.account(2, -2));
        e.due("the one that is there", 1, m -> m.account(2, 0));
        e.due("the newest", 2, m -> m.account(2, 1));
        e.refused("one behind the newest", BAD, m -> m.account(2, 3));
    }

    static void promise3Minutes() {
        Edge e = new Edge(3, "Minutes go by, 1 .. 10000: NOW.");
        for (int minutes : new int[] {0, -1, 10001, LEAST, MOST}) {
            e.refused("tick(" + minutes + ")", BAD, m -> m.tick(minutes));
        }
        e.due("NOW stays", 0, m -> m.count(0));
        e.due("the fewest", 1, m -> m.tick(1));
        e.due("the most", 10001, m -> m.tick(10000));
        e.refused("one more than the most", BAD, m -> m.tick(10001));
        e.due("NOW", 10001, m -> m.count(0));
    }

    private static Edge atMinute90000(String sentence) {
        Edge e = withAccounts(3, sentence);
        for (int i = 0; i < 9; i++) {
            e.given(m -> m.tick(10000));
        }
        return e;
    }

    static void promise3Full() {
        Edge e = atMinute90000("BAD; FULL: it would be more than 99999.");
        e.given(m -> m.event(1, 0, 0, 1, 90000)).given(m -> m.request(0, 0, 1));
        e.refused("to 100000", FULL, m -> m.tick(10000));
        e.due("its keys stay", 1, m -> m.count(2));
        e.due("its holds stay", 1, m -> m.count(3));
        e.due("to 99999", 99999, m -> m.tick(9999));
        e.refused("to 100000, by one", FULL, m -> m.tick(1));
        e.refused("by the most", FULL, m -> m.tick(10000));
        e.refused("BAD stays BAD: 0", BAD, m -> m.tick(0));
        e.refused("BAD stays BAD: 10001", BAD, m -> m.tick(10001));
    }

    static void promise3UpTo99999() {
        Edge e = atMinute90000("NOW is a minute, 0 at first, up to 99999.");
        e.due("99998", 99998, m -> m.tick(9998));
        e.refused("two more", FULL, m -> m.tick(2));
        e.due("99999", 99999, m -> m.tick(1));
        e.due("an event there", 0, m -> m.event(1, 0, 0, 5, 99999));
        e.refused("one behind it", EARLY, m -> m.event(2, 0, 0, 5, 100000));
        e.due("of the last period", 5, m -> m.used(0, 0, 99));
        e.due("a request there", 0, m -> m.request(0, 0, 1));
        e.due("settled there", 0, m -> m.settle(0, 1, 2));
    }

    static void promise4BadArguments() {
        Edge e = withAccounts(4, "BAD: account, resource, UNITS or minute (below 0); EARLY; LATE; DUPLICATE; FULL.");
        for (int account : new int[] {-1, 4, 24, LEAST, MOST}) {
            e.refused("account " + account, BAD, m -> m.event(1, account, 0, 1, 0));
        }
        for (int resource : new int[] {-1, 4, LEAST, MOST}) {
            e.refused("resource " + resource, BAD, m -> m.event(1, 0, resource, 1, 0));
        }
        for (int minute : new int[] {-1, -500, LEAST}) {
            e.refused("minute " + minute, BAD, m -> m.event(1, 0, 0, 1, minute));
        }
        e.due("the first account and resource, minute 0", 0, m -> m.event(1, 0, 0, 1, 0));
        e.due("the last account and resource", 0, m -> m.event(1, 3, 3, 1, 0));
        e.refused("BAD, not DUPLICATE", BAD, m -> m.event(1, 0, 4, 1, 0));
        e.refused("BAD, not EARLY", BAD, m -> m.event(2, 0, 0, 0, 1));
        e.given(m -> m.tick(501));
        e.refused("BAD, not LATE", BAD, m -> m.event(2, 0, 0, 1000001, 0));
        e.refused("a minute below 0 is BAD, not LATE", BAD, m -> m.event(2, 0, 0, 1, -1));
    }

    static void promise4Units() {
        Edge e = withAccounts(4, "how many UNITS (1 .. 1000000)");
        for (int units : new int[] {0, -1, 1000001, LEAST, MOST}) {
            e.refused(units + " units", BAD, m -> m.event(1, 0, 0, units, 0));
        }
        e.due("1 unit", 0, m -> m.event(1, 0, 0, 1, 0));
        e.due("1000000 units", 0, m -> m.event(2, 0, 0, 1000000, 0));
        e.due("both are used", 1000001, m -> m.used(0, 0, 0));
    }

    static void promise4AnyKey() {
        Edge e = withAccounts(4, "a KEY (any long)");
        long[] keys = {Long.MIN_VALUE, Long.MAX_VALUE, 0, -1, 1, 1L << 32, 1L << 63 >> 31};
        for (long key : keys) {
            e.due("key " + key, 0, m -> m.event(key, 0, 0, 1, 0));
            e.refused("key " + key + " again", DUPLICATE, m -> m.event(key, 0, 0, 1, 0));
        }
        e.due("each is a key of its own", keys.length, m -> m.count(2));
        e.due("each counted once", keys.length, m -> m.used(0, 0, 0));
    }

    static void promise4Early() {
        Edge e = withAccounts(4, "EARLY, its minute is behind NOW");
        e.refused("1 at 0", EARLY, m -> m.event(1, 0, 0, 1, 1));
        e.due("0 at 0", 0, m -> m.event(1, 0, 0, 1, 0));
        e.given(m -> m.tick(1234));
        e.refused("one behind NOW", EARLY, m -> m.event(2, 0, 0, 1, 1235));
        e.refused("the greatest minute", EARLY, m -> m.event(2, 0, 0, 1, MOST));
        e.due("at NOW", 0, m -> m.event(2, 0, 0, 1, 1234));
    }

    static void promise4Late() {
        Edge e = withAccounts(4, "LATE, its minute is more than 500 before NOW");
        e.given(m -> m.tick(500));
        e.due("minute 0 at 500", 0, m -> m.event(1, 0, 0, 1, 0));
        e.given(m -> m.tick(1));
        e.refused("minute 0 at 501", LATE, m -> m.event(2, 0, 0, 1, 0));
        e.due("minute 1 at 501", 0, m -> m.event(2, 0, 0, 1, 1));
        e.given(m -> m.tick(10000));
        e.refused("501 before", LATE, m -> m.event(3, 0, 0, 1, 10000));
        e.due("500 before", 0, m -> m.event(3, 0, 0, 1, 10001));
        e.refused("minute 0", LATE, m -> m.event(4, 0, 0, 1, 0));
    }

    static void promise4Duplicate() {
        Edge e = withAccounts(4, "DUPLICATE, an ACCEPTED event has its KEY (that tenant's;");
        e.given(m -> m.event(1, 0, 0, 3, 0));
        e.refused("the same again", DUPLICATE, m -> m.event(1, 0, 0, 3, 0));
        e.refused("by an account in it, all else being another", DUPLICATE, m -> m.event(1, 2, 3, 9, 0));
        e.due("of another tenant", 0, m -> m.event(1, 3, 0, 3, 0));
        e.refused("of that one again", DUPLICATE, m -> m.event(1, 3, 0, 3, 0));
        e.refused("one that was not ACCEPTED: BAD", BAD, m -> m.event(2, 0, 0, 0, 0));
        e.refused("one that was not ACCEPTED: EARLY", EARLY, m -> m.event(2, 0, 0, 1, 1));
        e.due("so its KEY is no duplicate", 0, m -> m.event(2, 0, 0, 1, 0));
        e.given(m -> m.request(1, 2, 5)).given(m -> m.settle(0, 4, 3));
        e.refused("the KEY of a settled hold", DUPLICATE, m -> m.event(3, 0, 0, 1, 0));
        e.given(m -> m.tick(1000)).given(m -> m.close(0));
        e.due("an adjustment", 1, m -> m.event(4, 0, 0, 1, 999));
        e.refused("the KEY of an adjustment", DUPLICATE, m -> m.event(4, 0, 0, 1, 1000));
    }

    static void promise4LateTeachesNoKey() {
        Edge e = withAccounts(4, "usage comes as events in any order, each counted once");
        e.given(m -> m.tick(900));
        e.refused("LATE", LATE, m -> m.event(1, 0, 0, 1, 399));
        e.due("its KEY is free", 0, m -> m.event(1, 0, 0, 1, 900));
        e.due("an older one comes behind it", 0, m -> m.event(2, 0, 0, 1, 400));
        e.due("each counted once", 2, m -> m.used(0, 0, 0));
    }

    static void promise4Forgotten() {
        Edge e = withAccounts(4, "a KEY is forgotten when NOW has come to 1000 behind that event's minute, or further");
        e.given(m -> m.tick(500)).given(m -> m.event(1, 0, 0, 1, 0)).given(m -> m.event(2, 0, 0, 1, 1));
        e.given(m -> m.tick(499));
        e.refused("999 behind", DUPLICATE, m -> m.event(1, 0, 0, 1, 999));
        e.due("both known", 2, m -> m.count(2));
        e.given(m -> m.tick(1));
        e.due("1000 behind: one is known", 1, m -> m.count(2));
        e.due("1000 behind: the KEY is free", 0, m -> m.event(1, 0, 0, 1, 1000));
        e.refused("the other is 999 behind", DUPLICATE, m -> m.event(2, 0, 0, 1, 1000));
        e.given(m -> m.tick(2));
        e.due("1001 behind: the KEY is free", 0, m -> m.event(2, 0, 0, 1, 1000));
        e.refused("what came anew is known", DUPLICATE, m -> m.event(1, 0, 0, 1, 1002));
        e.given(m -> m.tick(10000));
        e.due("far behind", 0, m -> m.count(2));
        e.due("what was used stays so", 2, m -> m.used(0, 0, 0));
    }

    static void promise4ForgottenAmongOthers() {
        Edge e = withAccounts(4, "(that tenant's; a KEY is forgotten when NOW has come to 1000 behind that event's minute,"
            + " or further)");
        e.given(m -> m.tick(500)).given(m -> m.event(1, 0, 0, 1, 0)).given(m -> m.event(2, 3, 0, 1, 300));
        e.given(m -> m.event(3, 0, 0, 1, 200)).given(m -> m.event(4, 3, 0, 1, 500)).given(m -> m.tick(699));
        e.due("the first is forgotten", 3, m -> m.count(2));
        e.refused("the second is known of its tenant", DUPLICATE, m -> m.event(2, 3, 0, 1, 1199));
        e.refused("the third is known of its tenant", DUPLICATE, m -> m.event(3, 0, 0, 1, 1199));
        e.due("the second is not the other tenant's", 0, m -> m.event(2, 0, 0, 1, 1199));
        e.due("nor is the third", 0, m -> m.event(3, 3, 0, 1, 1199));
        e.given(m -> m.tick(1));
        e.due("the third is forgotten", 0, m -> m.event(3, 0, 0, 1, 1200));
        e.given(m -> m.tick(99));
        e.refused("the second is 999 behind", DUPLICATE, m -> m.event(2, 3, 0, 1, 1299));
        e.given(m -> m.tick(1));
        e.due("the second is forgotten", 0, m -> m.event(2, 3, 0, 1, 1300));
        e.refused("the fourth is known", DUPLICATE, m -> m.event(4, 3, 0, 1, 1300));
        e.due("the fourth and those that came anew", 5, m -> m.count(2));
    }

    private static Edge withKeys(int many, String sentence) {
        Edge e = withAccounts(4, sentence);
        for (int i = 0; i < many; i++) {
            long key = 1000 + i;
            int account = i % 2 == 0 ? 0 : 3;
            e.given(m -> m.event(key, account, 1, 1, 0));
        }
        return e;
    }

    static void promise4FullOfKeys() {
        Edge e = withKeys(299, "FULL, 300 KEYS are known in all that are not forgotten");
        e.due("the 300th", 0, m -> m.event(1, 3, 0, 1, 0));
        e.refused("the 301st", FULL, m -> m.event(2, 0, 0, 1, 0));
        e.refused("of the other tenant", FULL, m -> m.event(2, 3, 0, 1, 0));
        e.refused("of a KEY that only the other tenant has", FULL, m -> m.event(1, 0, 0, 1, 0));
        e.due("300 known", 300, m -> m.count(2));
        e.given(m -> m.tick(999));
        e.refused("a minute before they are forgotten", FULL, m -> m.event(2, 0, 0, 1, 999));
        e.given(m -> m.tick(1));
        e.due("when they are forgotten", 0, m -> m.event(2, 0, 0, 1, 1000));
        e.due("one known", 1, m -> m.count(2));
    }

    static void promise4FirstThatIsSo() {
        Edge e = withAccounts(4, "An event that comes is, the first that is so: EARLY, its minute is behind NOW; LATE,");
        e.given(m -> m.tick(501));
        for (int i = 0; i < 300; i++) {
            long key = i;
            e.given(m -> m.event(key, 0, 1, 1, 400));
        }
        e.refused("EARLY, DUPLICATE and FULL", EARLY, m -> m.event(7, 0, 0, 1, 502));
        e.refused("EARLY and FULL", EARLY, m -> m.event(301, 0, 0, 1, 502));
        e.refused("LATE, DUPLICATE and FULL", LATE, m -> m.event(7, 0, 0, 1, 0));
        e.refused("LATE and FULL", LATE, m -> m.event(301, 0, 0, 1, 0));
        e.refused("DUPLICATE and FULL", DUPLICATE, m -> m.event(7, 0, 0, 1, 501));
        e.refused("FULL alone", FULL, m -> m.event(301, 0, 0, 1, 501));
        e.refused("BAD and all else", BAD, m -> m.event(7, 0, 0, 0, 502));
    }

    static void promise4Adjustment() {
        Edge e = withAccounts(4, "If its PERIOD is closed for its tenant, it is an ADJUSTMENT besides (below).");
        e.given(m -> m.tick(1000));
        e.due("not closed yet", 0, m -> m.event(1, 0, 0, 1, 999));
        e.given(m -> m.close(0));
        e.due("the last minute of the closed one", 1, m -> m.event(2, 2, 0, 1, 999));
        e.due("the first of the next", 0, m -> m.event(3, 2, 0, 1, 1000));
        e.due("of a tenant whose own is not closed", 0, m -> m.event(2, 3, 0, 1, 999));
        e.due("it is used in its own period", 2, m -> m.used(0, 0, 0));
        e.due("not in the next", 1, m -> m.used(0, 0, 1));
        e.given(m -> m.tick(499));
        e.due("500 before NOW, closed", 1, m -> m.event(4, 0, 0, 1, 999));
        e.given(m -> m.tick(1));
        e.refused("501 before NOW, closed", LATE, m -> m.event(5, 0, 0, 1, 999));
    }

    static void promise4ZeroOrOne() {
        Edge e = withAccounts(4, "An event comes: 0 ACCEPTED, 1 an ADJUSTMENT.");
        e.given(m -> m.tick(3000)).given(m -> m.close(0)).given(m -> m.close(0));
        e.due("of the period behind the closed ones", 0, m -> m.event(1, 0, 0, 1, 2500));
        e.given(m -> m.close(0));
        e.due("of the one closed last", 1, m -> m.event(2, 0, 0, 1, 2500));
        e.due("of the other tenant", 0, m -> m.event(2, 3, 0, 1, 2500));
        e.due("of the open one", 0, m -> m.event(3, 0, 0, 1, 3000));
        e.refused("refused ones are neither", DUPLICATE, m -> m.event(2, 0, 0, 1, 2500));
    }

    static void promise16BadArguments() {
        Edge e = withAccounts(16, "BAD: account, resource or PERIOD (0 .. 99).");
        for (int account : new int[] {-1, 4, 24, LEAST, MOST}) {
            e.refused("account " + account, BAD, m -> m.used(account, 0, 0));
        }
        for (int resource : new int[] {-1, 4, LEAST, MOST}) {
            e.refused("resource " + resource, BAD, m -> m.used(0, resource, 0));
        }
        for (int period : new int[] {-1, 100, LEAST, MOST}) {
            e.refused("period " + period, BAD, m -> m.used(0, 0, period));
        }
        e.due("the first of all", 0, m -> m.used(0, 0, 0));
        e.due("the last of all", 0, m -> m.used(3, 3, 99));
    }

    static void promise16MinutesOfAPeriod() {
        Edge e = withAccounts(16, "PERIOD p is the minutes 1000 p .. 1000 p + 999.");
        e.given(m -> m.event(1, 0, 0, 1, 0)).given(m -> m.tick(1000));
        e.given(m -> m.event(2, 0, 0, 20, 999)).given(m -> m.event(3, 0, 0, 300, 1000));
        e.given(m -> m.tick(1000));
        e.given(m -> m.event(4, 0, 0, 4000, 1999)).given(m -> m.event(5, 0, 0, 50000, 2000));
        e.due("0 and 999", 21, m -> m.used(0, 0, 0));
        e.due("1000 and 1999", 4300, m -> m.used(0, 0, 1));
        e.due("2000", 50000, m -> m.used(0, 0, 2));
        e.due("none yet", 0, m -> m.used(0, 0, 3));
        for (int i = 0; i < 9; i++) {
            e.given(m -> m.tick(10000));
        }
        e.given(m -> m.tick(7000));
        e.given(m -> m.event(6, 0, 0, 6, 98999)).given(m -> m.event(7, 0, 0, 70, 99000));
        e.due("98999", 6, m -> m.used(0, 0, 98));
        e.due("99000", 70, m -> m.used(0, 0, 99));
    }

    static void promise16AnyDepth() {
        Edge e = new Edge(16, "of it and of those accounts that lie in it at any depth, with a minute of that PERIOD");
        for (int i = 0; i < 23; i++) {
            int in = i - 1;
            e.given(m -> m.account(4, in));
        }
        e.given(m -> m.account(4, NONE));
        e.given(m -> m.event(1, 22, 2, 5, 0)).given(m -> m.event(2, 0, 2, 70, 0)).given(m -> m.event(3, 23, 2, 1000000, 0));
        e.due("the outermost", 75, m -> m.used(0, 2, 0));
        for (int i = 1; i < 23; i++) {
            int account = i;
            e.due("account " + i, 5, m -> m.used(account, 2, 0));
        }
        e.due("the one beside", 1000000, m -> m.used(23, 2, 0));
        e.due("of another resource", 0, m -> m.used(0, 1, 0));
        e.due("in another period", 0, m -> m.used(0, 2, 1));
    }

    static void promise16MostUnits() {
        Edge e = withAccounts(16, "the UNITS of all events that were ACCEPTED");
        for (int i = 0; i < 300; i++) {
            long key = 1000 + i;
            e.given(m -> m.event(key, 2, 0, 1000000, 0));
        }
        e.refused("FULL", FULL, m -> m.event(1, 2, 0, 1000000, 0));
        e.refused("DUPLICATE", DUPLICATE, m -> m.event(1000, 2, 0, 1000000, 0));
        e.due("all of them", 300000000, m -> m.used(2, 0, 0));
        e.due("and no more", 300000000, m -> m.used(0, 0, 0));
    }

    static void promise23What() {
        Edge e = withAccounts(23, "What = 0 NOW, 1 accounts, 2 KEYS that are known, 3 HOLDS that are open, 4 invoices. BAD.");
        e.given(m -> m.event(1, 0, 0, 1, 0)).given(m -> m.request(0, 0, 1)).given(m -> m.request(0, 0, 1)).given(m -> m.tick(59));
        long[] at59 = {59, 4, 1, 2, 0};
        countsAre(e, at59);
        e.given(m -> m.tick(1));
        long[] at60 = {60, 4, 1, 0, 0};
        countsAre(e, at60);
        e.given(m -> m.tick(939));
        long[] at999 = {999, 4, 1, 0, 0};
        countsAre(e, at999);
        e.given(m -> m.tick(1)).given(m -> m.close(5)).given(m -> m.close(0)).given(m -> m.close(1));
        long[] at1000 = {1000, 4, 0, 0, 3};
        countsAre(e, at1000);
        for (int what : new int[] {-1, 5, LEAST, MOST}) {
            e.refused("what " + what, BAD, m -> m.count(what));
        }
    }

    private static void countsAre(Edge e, long[] want) {
        for (int i = 0; i < 5; i++) {
            int what = i;
            e.due("what " + what, want[what], m -> m.count(what));
        }
    }

    static void promise23TheLastCall() {
        Edge e = withAccounts(23, "An object is used for at most 512 calls after it has been made");
        for (int i = 4; i < 511; i++) {
            e.given(m -> m.tick(1));
        }
        e.due("the 512th call", 507, m -> m.count(0));
    }
}
