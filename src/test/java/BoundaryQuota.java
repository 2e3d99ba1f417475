/**
 * The boundaries of promises 5 (limit), 6 (request), 7 (settle), 8 (drop), 17 (held), 18 (room) and 19 (hold),
 * sentence by sentence.
 */
final class BoundaryQuota {
    private static final int NONE = -1, BAD = -2, FULL = -3, DUPLICATE = -6, REFUSED = -7;
    private static final int LEAST = Integer.MIN_VALUE, MOST = Integer.MAX_VALUE;
    private static final int[] NO_ACCOUNTS = {-1, 5, 24, LEAST, MOST};
    private static final int[] NO_RESOURCES = {-1, 4, LEAST, MOST};

    /** Accounts 0, 1 in 0, 2 in 1 and 3 in 0 of tenant 0; 4 of tenant 5. */
    private static Edge withAccounts(int promise, String sentence) {
        Edge e = new Edge(promise, sentence);
        e.given(m -> m.account(0, NONE)).given(m -> m.account(0, 0)).given(m -> m.account(0, 1)).given(m -> m.account(0, 0));
        return e.given(m -> m.account(5, NONE));
    }

    static void promise5Numbers() {
        Edge e = withAccounts(5, "a LIMIT, 0 .. 1000000000, or none.");
        e.due("5", 0, m -> m.limit(1, 0, 5));
        for (int limit : new int[] {-2, 1000000001, LEAST, MOST}) {
            e.refused("limit " + limit, BAD, m -> m.limit(1, 0, limit));
        }
        e.due("the 5 stays", 5, m -> m.room(1, 0));
        e.due("the least", 0, m -> m.limit(1, 0, 0));
        e.due("it lets nothing in", 0, m -> m.room(1, 0));
        e.due("the greatest", 0, m -> m.limit(1, 0, 1000000000));
        e.due("it lets in what a request can have", 1000000, m -> m.room(1, 0));
    }

    static void promise5None() {
        Edge e = withAccounts(5, "A LIMIT, or none (NONE): 0.");
        e.due("a limit of 0", 0, m -> m.limit(1, 0, 0));
        e.refused("a request under it", REFUSED, m -> m.request(1, 0, 1));
        e.due("none", 0, m -> m.limit(1, 0, NONE));
        e.due("a request under none", 0, m -> m.request(1, 0, 1000000));
        e.due("none again", 0, m -> m.limit(1, 0, NONE));
        e.due("room under none", 1000000, m -> m.room(1, 0));
    }

    static void promise5BadArguments() {
        Edge e = withAccounts(5, "BAD: account, resource or number.");
        for (int account : NO_ACCOUNTS) {
            e.refused("account " + account, BAD, m -> m.limit(account, 0, 1));
        }
        for (int resource : NO_RESOURCES) {
            e.refused("resource " + resource, BAD, m -> m.limit(0, resource, 1));
        }
        e.due("the first account and resource", 0, m -> m.limit(0, 0, 1));
        e.due("the last account and resource", 0, m -> m.limit(4, 3, 2));
        e.due("room of the first", 1, m -> m.room(0, 0));
        e.due("room of the last", 2, m -> m.room(4, 3));
        e.due("another resource of it", 1000000, m -> m.room(4, 2));
    }

    static void promise6Units() {
        Edge e = withAccounts(6, "A request of n UNITS (1 .. 1000000) by an account is ADMITTED");
        for (int units : new int[] {0, -1, 1000001, LEAST, MOST}) {
            e.refused(units + " units", BAD, m -> m.request(0, 0, units));
        }
        e.due("1 unit", 0, m -> m.request(0, 0, 1));
        e.due("1000000 units", 1, m -> m.request(0, 0, 1000000));
        e.due("both are held", 1000001, m -> m.held(0, 0));
        e.given(m -> m.limit(0, 0, 0));
        e.refused("1000001 is BAD, not REFUSED", BAD, m -> m.request(0, 0, 1000001));
        e.refused("0 is BAD, not REFUSED", BAD, m -> m.request(0, 0, 0));
    }

    static void promise6BadArguments() {
        Edge e = withAccounts(6, "BAD: account, resource or number; FULL: 40 are open, or there were 200; REFUSED.");
        for (int account : NO_ACCOUNTS) {
            e.refused("account " + account, BAD, m -> m.request(account, 0, 1));
        }
        for (int resource : NO_RESOURCES) {
            e.refused("resource " + resource, BAD, m -> m.request(0, resource, 1));
        }
        e.due("the first account and resource", 0, m -> m.request(0, 0, 1));
        e.due("the last account and resource", 1, m -> m.request(4, 3, 1));
    }

    static void promise6NotMoreThanTheLimit() {
        Edge e = withAccounts(6, "USED in the PERIOD of NOW, what is HELD (of that resource, by it and those that lie in it)"
            + " and n are not more than that.");
        e.given(m -> m.limit(0, 0, 100));
        e.given(m -> m.event(1, 0, 0, 10, 0)).given(m -> m.event(2, 2, 0, 20, 0));
        e.given(m -> m.request(0, 0, 5)).given(m -> m.request(3, 0, 15));
        e.given(m -> m.event(3, 0, 1, 1000000, 0)).given(m -> m.request(0, 1, 1000000));
        e.given(m -> m.event(4, 4, 0, 1000000, 0)).given(m -> m.request(4, 0, 1000000));
        e.refused("30, 20 and 51", REFUSED, m -> m.request(2, 0, 51));
        e.due("30, 20 and 50", 4, m -> m.request(2, 0, 50));
        e.refused("one more", REFUSED, m -> m.request(2, 0, 1));
        e.given(m -> m.limit(0, 0, 101));
        e.refused("two more under 101", REFUSED, m -> m.request(0, 0, 2));
        e.due("one more under 101", 5, m -> m.request(0, 0, 1));
    }

    static void promise6EachAccountThatItLiesIn() {
        for (int k = 0; k < 24; k++) {
            int limited = k;
            Edge e = new Edge(6, "for it and each account that it lies in, at any depth, which has a LIMIT");
            for (int i = 0; i < 24; i++) {
                int in = i - 1;
                e.given(m -> m.account(3, in));
            }
            e.given(m -> m.limit(limited, 1, 7));
            e.due("room of the inmost", 7, m -> m.room(23, 1));
            if (limited > 0) {
                e.due("the limit of one that lies in it is not looked at", 0, m -> m.request(limited - 1, 1, 8));
                e.given(m -> m.drop(0));
            }
            e.refused("8 by the inmost, the limit at " + limited, REFUSED, m -> m.request(23, 1, 8));
            e.due("7 by the inmost", limited > 0 ? 1 : 0, m -> m.request(23, 1, 7));
        }
    }

    static void promise6PeriodOfNow() {
        Edge e = withAccounts(6, "USED in the PERIOD of NOW");
        e.given(m -> m.limit(0, 0, 10)).given(m -> m.tick(999)).given(m -> m.event(1, 0, 0, 10, 999));
        e.refused("at 999", REFUSED, m -> m.request(1, 0, 1));
        e.given(m -> m.tick(1));
        e.refused("at 1000, one more than the limit", REFUSED, m -> m.request(1, 0, 11));
        e.due("at 1000, the limit", 0, m -> m.request(1, 0, 10));
        e.given(m -> m.event(2, 0, 0, 10, 999)).given(m -> m.drop(0));
        e.due("what comes late is not of this period", 10, m -> m.room(1, 0));
        e.given(m -> m.event(3, 0, 0, 10, 1000));
        e.due("what comes now is", 0, m -> m.room(1, 0));
    }

    static void promise6HeldInTheNextPeriod() {
        Edge e = withAccounts(6, "Open ones are HELD.");
        e.given(m -> m.limit(0, 0, 10)).given(m -> m.tick(999)).given(m -> m.request(2, 0, 10)).given(m -> m.tick(1));
        e.due("held in the next period too", 10, m -> m.held(0, 0));
        e.refused("one more", REFUSED, m -> m.request(1, 0, 1));
        e.given(m -> m.tick(58));
        e.refused("59 behind", REFUSED, m -> m.request(1, 0, 1));
        e.given(m -> m.tick(1));
        e.due("60 behind", 1, m -> m.request(1, 0, 10));
    }

    static void promise6FortyOpen() {
        Edge e = withAccounts(6, "with its number (from 0 on; at most 40 that are open, 200 in all)");
        e.given(m -> m.limit(3, 0, 0));
        for (int i = 0; i < 40; i++) {
            int account = i % 2 == 0 ? 1 : 4;
            e.due("hold " + i, i, m -> m.request(account, 0, 1));
        }
        e.refused("a 41st", FULL, m -> m.request(1, 0, 1));
        e.refused("of another tenant", FULL, m -> m.request(4, 3, 1));
        e.refused("FULL, not REFUSED", FULL, m -> m.request(3, 0, 1));
        e.refused("BAD, not FULL", BAD, m -> m.request(1, 4, 1));
        e.given(m -> m.drop(7));
        e.refused("39 are open: REFUSED", REFUSED, m -> m.request(3, 0, 1));
        e.due("39 are open", 40, m -> m.request(1, 0, 1));
        e.refused("40 are open", FULL, m -> m.request(1, 0, 1));
        e.given(m -> m.settle(8, 0, 1));
        e.due("one was settled", 41, m -> m.request(1, 0, 1));
        e.refused("40 are open again", FULL, m -> m.request(1, 0, 1));
        e.given(m -> m.tick(59));
        e.refused("59 behind", FULL, m -> m.request(1, 0, 1));
        e.given(m -> m.tick(1));
        e.due("60 behind", 42, m -> m.request(1, 0, 1));
        e.due("one is open", 1, m -> m.count(3));
    }

    static void promise6TwoHundredInAll() {
        Edge e = withAccounts(6, "FULL: 40 are open, or there were 200");
        e.given(m -> m.limit(3, 0, 0));
        for (int i = 0; i < 199; i++) {
            e.given(m -> m.request(1, 0, 1));
            if (i % 40 == 39) {
                e.given(m -> m.tick(60));
            }
        }
        e.due("the 200th", 199, m -> m.request(1, 0, 1));
        e.given(m -> m.tick(60));
        e.due("none is open", 0, m -> m.count(3));
        e.refused("a 201st", FULL, m -> m.request(1, 0, 1));
        e.refused("FULL, not REFUSED", FULL, m -> m.request(3, 0, 1));
        e.refused("BAD, not FULL", BAD, m -> m.request(1, 0, 0));
        e.due("the last hold is there", 1, m -> m.hold(199, 0));
        e.refused("none behind it", BAD, m -> m.hold(200, 0));
        e.refused("none to settle behind it", BAD, m -> m.settle(200, 0, 1));
        e.refused("none to drop behind it", BAD, m -> m.drop(200));
    }

    static void promise6EventsAreNeverRefused() {
        Edge e = withAccounts(6, "(What is used by events is never refused by LIMITS.)");
        e.given(m -> m.limit(0, 0, 0)).given(m -> m.limit(2, 0, 0));
        e.due("an event under a limit of 0", 0, m -> m.event(1, 2, 0, 1000000, 0));
        e.due("it is used", 1000000, m -> m.used(0, 0, 0));
        e.due("no room below 0", 0, m -> m.room(2, 0));
        e.refused("a request", REFUSED, m -> m.request(2, 0, 1));
        e.given(m -> m.limit(0, 0, 1000000)).given(m -> m.limit(2, 0, 1000000));
        e.refused("just full", REFUSED, m -> m.request(2, 0, 1));
        e.given(m -> m.limit(0, 0, 1000001)).given(m -> m.limit(2, 0, 1000001));
        e.due("one free", 0, m -> m.request(2, 0, 1));
        e.given(m -> m.limit(0, 0, 0));
        e.due("settled over a limit that came later", 0, m -> m.settle(0, 1, 2));
        e.due("it is used too", 1000001, m -> m.used(0, 0, 0));
    }

    static void promise7Units() {
        Edge e = withAccounts(7, "of so many UNITS, at most those that it holds");
        e.given(m -> m.request(2, 1, 10)).given(m -> m.request(2, 1, 10)).given(m -> m.request(2, 1, 1));
        for (int units : new int[] {-1, 11, LEAST, MOST}) {
            e.refused(units + " of 10", BAD, m -> m.settle(0, units, 1));
        }
        e.due("all 10", 0, m -> m.settle(0, 10, 1));
        e.due("1 of 10", 0, m -> m.settle(1, 1, 2));
        e.refused("2 of 1", BAD, m -> m.settle(2, 2, 3));
        e.due("1 of 1", 0, m -> m.settle(2, 1, 3));
        e.due("used by those around it", 12, m -> m.used(0, 1, 0));
        e.due("of another resource", 0, m -> m.used(0, 0, 0));
        e.due("nothing is held any more", 0, m -> m.held(0, 1));
    }

    static void promise7MostUnits() {
        Edge e = withAccounts(7, "an event of its account and resource comes, at NOW, of so many UNITS");
        e.given(m -> m.request(4, 3, 1000000));
        e.refused("one more", BAD, m -> m.settle(0, 1000001, 1));
        e.due("all", 0, m -> m.settle(0, 1000000, 1));
        e.due("used", 1000000, m -> m.used(4, 3, 0));
        e.given(m -> m.tick(990)).given(m -> m.request(1, 2, 5)).given(m -> m.tick(10));
        e.due("NOW is of the next period", 0, m -> m.settle(1, 4, 7));
        e.due("the period of the request", 0, m -> m.used(1, 2, 0));
        e.due("the period of NOW", 4, m -> m.used(1, 2, 1));
        e.given(m -> m.tick(999));
        e.refused("its KEY, 999 behind NOW of then", DUPLICATE, m -> m.event(7, 0, 0, 1, 1999));
        e.given(m -> m.tick(1));
        e.due("its KEY, 1000 behind", 0, m -> m.event(7, 0, 0, 1, 2000));
    }

    static void promise7NoUnits() {
        Edge e = withAccounts(7, "(0: no event, it is settled all the same, the answer is 0, the key being looked at no more)");
        e.given(m -> m.event(1, 0, 0, 1, 0)).given(m -> m.request(0, 0, 10)).given(m -> m.request(0, 0, 10));
        e.due("with a KEY that is known", 0, m -> m.settle(0, 0, 1));
        e.due("it is settled", 0, m -> m.hold(0, 4));
        e.due("one stays open", 1, m -> m.count(3));
        e.due("with a new KEY", 0, m -> m.settle(1, 0, 2));
        e.due("no event", 1, m -> m.used(0, 0, 0));
        e.due("no KEY", 1, m -> m.count(2));
        e.due("so the KEY is free", 0, m -> m.event(2, 0, 0, 1, 0));
        e.refused("settled twice", BAD, m -> m.settle(0, 0, 3));
    }

    static void promise7NoUnitsWhenFull() {
        Edge e = withAccounts(7, "what event() refuses is answered, the HOLD staying open.");
        e.given(m -> m.request(1, 0, 10)).given(m -> m.request(1, 0, 10));
        for (int i = 0; i < 299; i++) {
            long key = 1000 + i;
            e.given(m -> m.event(key, 0, 1, 1, 0));
        }
        e.refused("DUPLICATE", DUPLICATE, m -> m.settle(0, 1, 1000));
        e.due("the 300th KEY", 0, m -> m.settle(0, 1, 1));
        e.refused("FULL of KEYS", FULL, m -> m.settle(1, 1, 2));
        e.refused("DUPLICATE before FULL", DUPLICATE, m -> m.settle(1, 1, 1));
        e.refused("units are looked at first", BAD, m -> m.settle(1, 11, 1));
        e.due("open", 1, m -> m.hold(1, 4));
        e.due("held", 10, m -> m.held(0, 0));
        e.due("0 units, though FULL", 0, m -> m.settle(1, 0, 2));
        e.due("not open", 0, m -> m.hold(1, 4));
    }

    static void promise7KeyOfItsTenant() {
        Edge e = withAccounts(7, "as event(). BAD: no open HOLD, or units;");
        e.given(m -> m.event(1, 4, 0, 1, 0)).given(m -> m.event(2, 3, 0, 1, 0)).given(m -> m.request(1, 0, 10));
        e.refused("a KEY of an account beside it", DUPLICATE, m -> m.settle(0, 10, 2));
        e.due("a KEY of another tenant", 0, m -> m.settle(0, 10, 1));
        e.refused("its own KEY now", DUPLICATE, m -> m.event(1, 0, 0, 1, 0));
    }

    static void promise7NoOpenHold() {
        Edge e = withAccounts(7, "BAD: no open HOLD, or units; what event() refuses is answered, the HOLD staying open.");
        e.given(m -> m.request(0, 0, 3)).given(m -> m.request(0, 0, 3)).given(m -> m.request(0, 0, 3));
        e.given(m -> m.settle(0, 3, 1)).given(m -> m.drop(1));
        for (int hold : new int[] {0, 1, 3, -1, 200, LEAST, MOST}) {
            e.refused("hold " + hold, BAD, m -> m.settle(hold, 1, 2));
            e.refused("hold " + hold + ", 0 units", BAD, m -> m.settle(hold, 0, 2));
        }
        e.due("the one that is open", 0, m -> m.settle(2, 1, 2));
    }

    static void promise7InTime() {
        Edge e = withAccounts(7, "or NOW has come to 60 behind the minute at which it was ADMITTED, or further.");
        e.given(m -> m.tick(5)).given(m -> m.request(0, 0, 3)).given(m -> m.request(0, 0, 3)).given(m -> m.request(0, 0, 3));
        e.given(m -> m.tick(1)).given(m -> m.request(0, 0, 4)).given(m -> m.tick(58));
        e.due("59 behind: settled", 0, m -> m.settle(0, 1, 1));
        e.due("59 behind: dropped", 3, m -> m.drop(1));
        e.due("59 behind: open", 1, m -> m.hold(2, 4));
        e.due("59 behind: held", 7, m -> m.held(0, 0));
        e.given(m -> m.tick(1));
        e.refused("60 behind: settled", BAD, m -> m.settle(2, 1, 2));
        e.refused("60 behind: settled with 0", BAD, m -> m.settle(2, 0, 2));
        e.refused("60 behind: dropped", BAD, m -> m.drop(2));
        e.due("60 behind: not open", 0, m -> m.hold(2, 4));
        e.due("60 behind: not held; the other is 59 behind", 4, m -> m.held(0, 0));
        e.due("60 behind: one open", 1, m -> m.count(3));
        e.given(m -> m.tick(10000));
        e.refused("further: settled", BAD, m -> m.settle(3, 0, 2));
        e.due("further: none open", 0, m -> m.count(3));
        e.due("what it would have been is not used", 1, m -> m.used(0, 0, 0));
    }

    static void promise8Drop() {
        Edge e = withAccounts(8, "An open HOLD is dropped: its UNITS. BAD.");
        e.refused("none is there", BAD, m -> m.drop(0));
        e.given(m -> m.request(2, 0, 1)).given(m -> m.request(2, 0, 1000000)).given(m -> m.request(2, 0, 7));
        for (int hold : new int[] {-1, 3, 200, LEAST, MOST}) {
            e.refused("hold " + hold, BAD, m -> m.drop(hold));
        }
        e.due("the least", 1, m -> m.drop(0));
        e.due("the greatest", 1000000, m -> m.drop(1));
        e.refused("dropped twice", BAD, m -> m.drop(0));
        e.due("held by those around it", 7, m -> m.held(0, 0));
        e.given(m -> m.settle(2, 0, 1));
        e.refused("dropped when settled", BAD, m -> m.drop(2));
        e.due("nothing is used", 0, m -> m.used(0, 0, 0));
        e.due("none is open", 0, m -> m.count(3));
        e.due("numbers go on", 3, m -> m.request(2, 0, 1));
    }

    static void promise8InTime() {
        Edge e = withAccounts(8, "open until it is settled, dropped, or NOW has come to 60 behind the minute");
        e.given(m -> m.request(0, 0, 3)).given(m -> m.request(0, 0, 4)).given(m -> m.tick(59));
        e.due("59 behind", 3, m -> m.drop(0));
        e.given(m -> m.tick(1));
        e.refused("60 behind", BAD, m -> m.drop(1));
        e.given(m -> m.tick(1));
        e.refused("61 behind", BAD, m -> m.drop(1));
    }

    static void promise17Held() {
        Edge e = withAccounts(17, "What is HELD by an account and those that lie in it. BAD.");
        for (int account : NO_ACCOUNTS) {
            e.refused("account " + account, BAD, m -> m.held(account, 0));
        }
        for (int resource : NO_RESOURCES) {
            e.refused("resource " + resource, BAD, m -> m.held(0, resource));
        }
        e.due("nothing", 0, m -> m.held(4, 3));
        e.given(m -> m.request(0, 3, 1)).given(m -> m.request(1, 3, 20)).given(m -> m.request(2, 3, 300));
        e.given(m -> m.request(3, 3, 4000)).given(m -> m.request(4, 3, 50000)).given(m -> m.request(2, 2, 600000));
        long[] want = {4321, 320, 300, 4000, 50000};
        for (int i = 0; i < 5; i++) {
            int account = i;
            e.due("account " + account, want[account], m -> m.held(account, 3));
        }
        e.due("of the first resource", 0, m -> m.held(0, 0));
    }

    static void promise17Most() {
        Edge e = withAccounts(17, "What is HELD by an account and those that lie in it.");
        for (int i = 0; i < 40; i++) {
            e.given(m -> m.request(2, 0, 1000000));
        }
        e.refused("FULL", FULL, m -> m.request(2, 0, 1000000));
        e.due("as much as can be", 40000000, m -> m.held(0, 0));
    }

    static void promise18Room() {
        Edge e = withAccounts(18, "How many UNITS (0 .. 1000000) a request could have at most now, but for FULL. BAD.");
        for (int account : NO_ACCOUNTS) {
            e.refused("account " + account, BAD, m -> m.room(account, 0));
        }
        for (int resource : NO_RESOURCES) {
            e.refused("resource " + resource, BAD, m -> m.room(0, resource));
        }
        e.due("no limit", 1000000, m -> m.room(4, 3));
        e.given(m -> m.limit(0, 0, 1000001)).given(m -> m.request(3, 0, 1));
        e.due("1000000 left", 1000000, m -> m.room(2, 0));
        e.given(m -> m.request(3, 0, 1));
        e.due("999999 left", 999999, m -> m.room(2, 0));
        e.refused("one more", REFUSED, m -> m.request(2, 0, 1000000));
        e.due("just so much", 2, m -> m.request(2, 0, 999999));
        e.due("nothing left", 0, m -> m.room(2, 0));
        e.given(m -> m.limit(0, 0, 5));
        e.due("less than nothing", 0, m -> m.room(2, 0));
    }

    static void promise18LeastOfAll() {
        Edge e = withAccounts(18, "How many UNITS (0 .. 1000000) a request could have at most now");
        e.given(m -> m.limit(0, 0, 100)).given(m -> m.limit(1, 0, 50)).given(m -> m.limit(2, 0, 70));
        e.given(m -> m.event(1, 3, 0, 40, 0)).given(m -> m.event(2, 2, 0, 3, 0));
        e.due("the middle one's is the least", 47, m -> m.room(2, 0));
        e.given(m -> m.request(3, 0, 11));
        e.due("the outermost one's is the least", 46, m -> m.room(2, 0));
        e.given(m -> m.limit(2, 0, 48));
        e.due("its own is the least", 45, m -> m.room(2, 0));
        e.refused("46", REFUSED, m -> m.request(2, 0, 46));
        e.due("45", 1, m -> m.request(2, 0, 45));
        e.due("the one around it has one left", 1, m -> m.room(0, 0));
    }

    static void promise18ButForFull() {
        Edge e = withAccounts(18, "a request could have at most now, but for FULL.");
        e.given(m -> m.limit(1, 0, 50));
        for (int i = 0; i < 40; i++) {
            e.given(m -> m.request(1, 0, 1));
        }
        e.refused("FULL", FULL, m -> m.request(1, 0, 1));
        e.due("room all the same", 10, m -> m.room(1, 0));
        e.due("room of another", 1000000, m -> m.room(4, 0));
        e.given(m -> m.drop(0));
        e.refused("one more than the room", REFUSED, m -> m.request(1, 0, 12));
        e.due("the room", 40, m -> m.request(1, 0, 11));
    }

    static void promise19What() {
        Edge e = withAccounts(19, "Of a HOLD: what = 0 its account, 1 its resource, 2 its UNITS, 3 its minute,"
            + " 4 whether it is open (1 or 0).");
        e.given(m -> m.request(0, 0, 1)).given(m -> m.tick(7)).given(m -> m.request(4, 3, 1000000));
        holdIs(e, 0, 0, 0, 1, 0, 1);
        holdIs(e, 1, 4, 3, 1000000, 7, 1);
        e.given(m -> m.tick(53));
        holdIs(e, 0, 0, 0, 1, 0, 0);
        holdIs(e, 1, 4, 3, 1000000, 7, 1);
        e.given(m -> m.settle(1, 6, 1));
        holdIs(e, 1, 4, 3, 1000000, 7, 0);
    }

    private static void holdIs(Edge e, int hold, long... want) {
        for (int i = 0; i < 5; i++) {
            int what = i;
            e.due("hold(" + hold + ", " + what + ")", want[what], m -> m.hold(hold, what));
        }
    }

    static void promise19BadArguments() {
        Edge e = withAccounts(19, "BAD: there is none such, another what.");
        e.refused("none is there", BAD, m -> m.hold(0, 0));
        e.given(m -> m.request(0, 0, 1)).given(m -> m.request(0, 0, 1));
        for (int what : new int[] {-1, 5, LEAST, MOST}) {
            e.refused("what " + what, BAD, m -> m.hold(1, what));
        }
        for (int hold : new int[] {-1, 2, 199, 200, LEAST, MOST}) {
            e.refused("hold " + hold, BAD, m -> m.hold(hold, 0));
        }
        e.due("the last", 1, m -> m.hold(1, 4));
    }
}
