/** Promises 5 (limit), 6 (request), 7 (settle), 8 (drop), 17 (held), 18 (room) and 19 (hold). */
public final class QuotaTest {
    public static void main(String[] args) {
        limits();
        limitsOfAll();
        requests();
        fullOfHolds();
        settling();
        settlingRefused();
        dropping();
        timeOfHolds();
        rooms();
        holdFields();
        Check.end();
    }

    /** Accounts 0, 1 in 0, 2 in 1, 3 in 0 of tenant 0; 4 of tenant 1. */
    private static QuotaMeter withAccounts() {
        QuotaMeter m = new QuotaMeter();
        m.account(0, -1);
        m.account(0, 0);
        m.account(0, 1);
        m.account(0, 0);
        m.account(1, -1);
        return m;
    }

    private static void limits() {
        QuotaMeter m = withAccounts();
        Check.due("a limit", 0, m.limit(0, 0, 5));
        Check.due("room under it", 5, m.room(0, 0));
        Check.due("the least", 0, m.limit(0, 0, 0));
        Check.due("no room", 0, m.room(0, 0));
        Check.due("none", 0, m.limit(0, 0, -1));
        Check.due("all room", 1000000, m.room(0, 0));
        Check.due("the greatest", 0, m.limit(0, 0, 1000000000));
        Check.due("one more", -2, m.limit(0, 0, 1000000001));
        Check.due("-2", -2, m.limit(0, 0, -2));
        Check.due("account 5", -2, m.limit(5, 0, 1));
        Check.due("account -1", -2, m.limit(-1, 0, 1));
        Check.due("resource 4", -2, m.limit(0, 4, 1));
        Check.due("resource -1", -2, m.limit(0, -1, 1));
        Check.due("BAD ones change nothing", 1000000, m.room(0, 0));
    }

    private static void limitsOfAll() {
        QuotaMeter m = withAccounts();
        m.limit(0, 0, 100);
        m.limit(2, 0, 1000);
        m.limit(3, 0, 10);
        Check.due("the outermost counts for the inmost", -7, m.request(2, 0, 101));
        Check.due("its own counts", -7, m.request(3, 0, 11));
        Check.due("that of one in it does not", 0, m.request(0, 0, 50));
        Check.due("that of one beside it does not", 1, m.request(2, 0, 50));
        Check.due("nothing is left for any", -7, m.request(3, 0, 1));
        Check.due("another resource has no limit", 2, m.request(3, 1, 1000000));
        Check.due("nor has another tenant", 3, m.request(4, 0, 1000000));
    }

    private static void requests() {
        QuotaMeter m = withAccounts();
        m.limit(0, 0, 100);
        Check.due("account 5", -2, m.request(5, 0, 1));
        Check.due("account -1", -2, m.request(-1, 0, 1));
        Check.due("resource 4", -2, m.request(0, 4, 1));
        Check.due("resource -1", -2, m.request(0, -1, 1));
        Check.due("0 units", -2, m.request(0, 0, 0));
        Check.due("1000001 units are BAD, not REFUSED", -2, m.request(0, 0, 1000001));
        Check.due("an event beside it", 0, m.event(1, 3, 0, 30, 0));
        Check.due("one too many", -7, m.request(1, 0, 71));
        Check.due("just as many", 0, m.request(1, 0, 70));
        Check.due("none left", -7, m.request(0, 0, 1));
        Check.due("events are never refused by limits", 0, m.event(2, 0, 0, 1000000, 0));
        m.tick(1000);
        Check.due("another period has its own use", 1, m.request(0, 0, 100));
        Check.due("and it is full", -7, m.request(0, 0, 1));
        m.event(3, 0, 0, 9, 999);
        m.drop(1);
        Check.due("what comes late for the one before is not looked at", 100, m.room(0, 0));
    }

    private static void fullOfHolds() {
        QuotaMeter m = withAccounts();
        m.limit(0, 0, 0);
        for (int i = 0; i < 200; i++) {
            Check.due("hold " + i, i, m.request(i % 4, 1, 1));
            if (i % 40 == 39) {
                Check.due("40 are open", 40, m.count(3));
                Check.due("one more", -3, m.request(0, 1, 1));
                Check.due("of another tenant too", -3, m.request(4, 1, 1));
                Check.due("FULL before REFUSED", -3, m.request(0, 0, 1));
                Check.due("BAD before FULL", -2, m.request(0, 4, 1));
                m.tick(60);
                Check.due("none is open", 0, m.count(3));
            }
        }
        Check.due("there were 200", -3, m.request(0, 1, 1));
        Check.due("there were 200, FULL before REFUSED", -3, m.request(0, 0, 1));
        Check.due("room does not look at FULL", 1000000, m.room(0, 1));
        Check.due("the last hold", 0, m.hold(199, 4));
        Check.due("none behind it", -2, m.hold(200, 4));
        Check.due("none to settle behind it", -2, m.settle(200, 0, 1));
        Check.due("none to drop behind it", -2, m.drop(200));
    }

    private static void settling() {
        QuotaMeter m = withAccounts();
        m.limit(0, 0, 100);
        m.tick(5);
        m.request(2, 0, 60);
        Check.due("more than it holds", -2, m.settle(0, 61, 1));
        Check.due("below 0", -2, m.settle(0, -1, 1));
        Check.due("no such hold", -2, m.settle(1, 1, 1));
        Check.due("hold -1", -2, m.settle(-1, 1, 1));
        Check.due("still open", 1, m.hold(0, 4));
        Check.due("settled", 0, m.settle(0, 20, 1));
        Check.due("closed", 0, m.hold(0, 4));
        Check.due("used by those around too", 20, m.used(0, 0, 0));
        Check.due("nothing held", 0, m.held(0, 0));
        Check.due("what it left is free", 80, m.room(1, 0));
        Check.due("its key is known", -6, m.event(1, 0, 0, 1, 5));
        Check.due("settled twice", -2, m.settle(0, 1, 2));
        m.request(2, 1, 7);
        Check.due("all that it holds", 0, m.settle(1, 7, 2));
        Check.due("of its resource", 7, m.used(2, 1, 0));
        m.tick(1995);
        Check.due("its minute was that of the settling: both keys are forgotten", 0, m.count(2));
    }

    private static void settlingRefused() {
        QuotaMeter m = withAccounts();
        m.event(1, 3, 0, 1, 0);
        m.request(0, 0, 10);
        Check.due("a duplicate", -6, m.settle(0, 1, 1));
        Check.due("it stays open", 1, m.hold(0, 4));
        Check.due("and held", 10, m.held(0, 0));
        Check.due("units are looked at before the key", -2, m.settle(0, 11, 1));
        Check.due("0 units, the key not being looked at", 0, m.settle(0, 0, 1));
        Check.due("it is closed", 0, m.count(3));
        Check.due("no event came", 1, m.count(2));
        Check.due("nothing used", 1, m.used(0, 0, 0));
        m.request(0, 0, 10);
        for (int key = 2; key <= 300; key++) {
            m.event(key, 0, 1, 1, 0);
        }
        Check.due("FULL of keys", -3, m.settle(1, 1, 301));
        Check.due("open still", 1, m.hold(1, 4));
        Check.due("0 units when FULL", 0, m.settle(1, 0, 301));
    }

    private static void dropping() {
        QuotaMeter m = withAccounts();
        m.request(2, 0, 60);
        m.request(2, 0, 5);
        Check.due("no such hold", -2, m.drop(2));
        Check.due("hold -1", -2, m.drop(-1));
        Check.due("its units", 60, m.drop(0));
        Check.due("dropped twice", -2, m.drop(0));
        Check.due("settled after that", -2, m.settle(0, 0, 1));
        Check.due("the other stays", 5, m.held(0, 0));
        Check.due("nothing used", 0, m.used(0, 0, 0));
        Check.due("one open", 1, m.count(3));
        m.settle(1, 1, 1);
        Check.due("dropped after settling", -2, m.drop(1));
    }

    private static void timeOfHolds() {
        QuotaMeter m = withAccounts();
        m.tick(990);
        m.request(2, 0, 3);
        m.tick(1);
        m.request(1, 0, 4);
        m.tick(58);
        Check.due("59 behind", 7, m.held(0, 0));
        Check.due("in the next period it is held all the same", 1049, m.count(0));
        m.tick(1);
        Check.due("60 behind", 4, m.held(0, 0));
        Check.due("open", 1, m.count(3));
        Check.due("not open", 0, m.hold(0, 4));
        Check.due("not to be dropped", -2, m.drop(0));
        Check.due("not to be settled", -2, m.settle(0, 0, 1));
        Check.due("held by the inmost", 0, m.held(2, 0));
        m.tick(1000);
        Check.due("all over", 0, m.held(0, 0));
        Check.due("none open", 0, m.count(3));
        Check.due("the number goes on", 2, m.request(2, 0, 3));
    }

    private static void rooms() {
        QuotaMeter m = withAccounts();
        Check.due("no limit", 1000000, m.room(2, 0));
        m.limit(0, 0, 1000000000);
        Check.due("a great limit", 1000000, m.room(2, 0));
        m.limit(0, 0, 1000001);
        m.request(3, 0, 1);
        Check.due("just so much", 1000000, m.room(2, 0));
        m.request(3, 0, 1);
        Check.due("one less", 999999, m.room(2, 0));
        m.limit(1, 0, 10);
        m.event(1, 2, 0, 4, 0);
        m.request(1, 0, 5);
        Check.due("the least of all", 1, m.room(2, 0));
        Check.due("of the outermost", 999990, m.room(0, 0));
        m.limit(1, 0, 3);
        Check.due("never below 0", 0, m.room(2, 0));
        Check.due("held by it and those in it", 5, m.held(1, 0));
        Check.due("by all", 7, m.held(0, 0));
        Check.due("of another resource", 0, m.held(0, 1));
        Check.due("held: account", -2, m.held(5, 0));
        Check.due("held: account -1", -2, m.held(-1, 0));
        Check.due("held: resource", -2, m.held(0, 4));
        Check.due("held: resource -1", -2, m.held(0, -1));
        Check.due("room: account", -2, m.room(5, 0));
        Check.due("room: account -1", -2, m.room(-1, 0));
        Check.due("room: resource", -2, m.room(0, 4));
        Check.due("room: resource -1", -2, m.room(0, -1));
    }

    private static void holdFields() {
        QuotaMeter m = withAccounts();
        m.request(0, 0, 1);
        m.tick(7);
        m.request(3, 2, 44);
        long[] want = {3, 2, 44, 7, 1};
        for (int what = 0; what < 5; what++) {
            Check.due("field " + what, want[what], m.hold(1, what));
        }
        m.drop(1);
        want[4] = 0;
        for (int what = 0; what < 5; what++) {
            Check.due("field of a closed one " + what, want[what], m.hold(1, what));
        }
        Check.due("what 5", -2, m.hold(0, 5));
        Check.due("what -1", -2, m.hold(0, -1));
        Check.due("hold 2", -2, m.hold(2, 0));
        Check.due("hold -1", -2, m.hold(-1, 0));
        Check.due("hold 200", -2, m.hold(200, 0));
    }
}
