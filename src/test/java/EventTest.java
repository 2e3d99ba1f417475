/** Promises 4 (event) and 16 (used). */
public final class EventTest {
    public static void main(String[] args) {
        wrongArguments();
        times();
        keysOfTenants();
        forgottenKeys();
        fullOfKeys();
        usedAtDepth();
        adjustments();
        Check.end();
    }

    private static QuotaMeter withAccounts() {
        QuotaMeter m = new QuotaMeter();
        m.account(0, -1);
        m.account(0, 0);
        m.account(0, 1);
        m.account(1, -1);
        m.account(0, -1);
        return m;
    }

    private static void wrongArguments() {
        QuotaMeter m = withAccounts();
        m.tick(1000);
        Check.due("account -1", -2, m.event(1, -1, 0, 1, 1000));
        Check.due("account 5", -2, m.event(1, 5, 0, 1, 1000));
        Check.due("resource -1", -2, m.event(1, 0, -1, 1, 1000));
        Check.due("resource 4", -2, m.event(1, 0, 4, 1, 1000));
        Check.due("0 units", -2, m.event(1, 0, 0, 0, 1000));
        Check.due("1000001 units", -2, m.event(1, 0, 0, 1000001, 1000));
        Check.due("minute -1 is BAD, not LATE", -2, m.event(1, 0, 0, 1, -1));
        Check.due("least minute", -2, m.event(1, 0, 0, 1, Integer.MIN_VALUE));
        Check.due("BAD before EARLY", -2, m.event(1, 0, 0, 0, 1001));
        Check.due("no key was learnt", 0, m.count(2));
        Check.due("1000000 units", 0, m.event(1, 0, 3, 1000000, 1000));
        Check.due("used", 1000000, m.used(0, 3, 1));
        Check.due("BAD before DUPLICATE", -2, m.event(1, 0, 4, 1, 1000));
    }

    private static void times() {
        QuotaMeter m = withAccounts();
        Check.due("minute 1 at 0", -4, m.event(1, 0, 0, 1, 1));
        Check.due("the greatest minute", -4, m.event(1, 0, 0, 1, Integer.MAX_VALUE));
        m.tick(2500);
        Check.due("one behind NOW", -4, m.event(1, 0, 0, 1, 2501));
        Check.due("501 before NOW", -5, m.event(1, 0, 0, 1, 1999));
        Check.due("500 before NOW", 0, m.event(1, 0, 0, 1, 2000));
        Check.due("at NOW", 0, m.event(2, 0, 0, 1, 2500));
        Check.due("EARLY before DUPLICATE", -4, m.event(1, 0, 0, 1, 2501));
        Check.due("LATE before DUPLICATE", -5, m.event(1, 0, 0, 1, 1999));
        Check.due("minute 0 is late by then", -5, m.event(3, 0, 0, 1, 0));
    }

    private static void keysOfTenants() {
        QuotaMeter m = withAccounts();
        Check.due("a key", 0, m.event(7, 0, 0, 1, 0));
        Check.due("again", -6, m.event(7, 0, 0, 1, 0));
        Check.due("by an account in it, of another resource", -6, m.event(7, 2, 3, 9, 0));
        Check.due("by an account that lies in none", -6, m.event(7, 4, 0, 1, 0));
        Check.due("of another tenant", 0, m.event(7, 3, 0, 1, 0));
        Check.due("of that again", -6, m.event(7, 3, 0, 1, 0));
        Check.due("the least key", 0, m.event(Long.MIN_VALUE, 0, 0, 1, 0));
        Check.due("the least key again", -6, m.event(Long.MIN_VALUE, 0, 0, 1, 0));
        Check.due("one like 7 in its lower half", 0, m.event(7 + (1L << 32), 0, 0, 1, 0));
        Check.due("key 0", 0, m.event(0, 0, 0, 1, 0));
        Check.due("a refused event teaches no key", -4, m.event(8, 0, 0, 1, 1));
        Check.due("so it is free", 0, m.event(8, 0, 0, 1, 0));
        Check.due("keys", 6, m.count(2));
        Check.due("duplicates are not counted", 5, m.used(0, 0, 0));
    }

    private static void forgottenKeys() {
        QuotaMeter m = withAccounts();
        m.tick(400);
        m.event(1, 0, 0, 1, 0);
        m.event(2, 0, 0, 1, 400);
        m.tick(599);
        Check.due("999 behind", 2, m.count(2));
        Check.due("known at 999", -6, m.event(1, 0, 0, 1, 999));
        m.tick(1);
        Check.due("1000 behind", 1, m.count(2));
        Check.due("forgotten, though it came only 600 ago", 0, m.event(1, 0, 0, 1, 1000));
        Check.due("the other is known", -6, m.event(2, 0, 0, 1, 1000));
        m.tick(400);
        Check.due("that is forgotten too", 1, m.count(2));
        Check.due("and free", 0, m.event(2, 0, 0, 1, 1400));
        Check.due("the one that came anew is known", -6, m.event(1, 0, 0, 1, 1400));
        m.tick(10000);
        Check.due("all forgotten", 0, m.count(2));
        Check.due("what is forgotten stays used", 2, m.used(0, 0, 0));
    }

    private static void fullOfKeys() {
        QuotaMeter m = withAccounts();
        m.event(1000, 0, 0, 1, 0);
        m.tick(1);
        for (int key = 1; key < 300; key++) {
            Check.due("key " + key, 0, m.event(key, key % 2 == 0 ? 0 : 3, 0, 1, 1));
        }
        Check.due("300 keys", 300, m.count(2));
        Check.due("one more", -3, m.event(301, 0, 0, 1, 1));
        Check.due("one more, of a key that another tenant has", -3, m.event(1, 0, 0, 1, 1));
        Check.due("DUPLICATE before FULL", -6, m.event(2, 0, 0, 1, 1));
        Check.due("EARLY before FULL", -4, m.event(301, 0, 0, 1, 2));
        Check.due("what was FULL is not used", 150, m.used(0, 0, 0));
        m.tick(999);
        Check.due("one is forgotten", 299, m.count(2));
        Check.due("so there is room", 0, m.event(301, 0, 0, 1, 1000));
        Check.due("for one", -3, m.event(302, 0, 0, 1, 1000));
        m.tick(1);
        Check.due("the rest is forgotten", 1, m.count(2));
    }

    private static void usedAtDepth() {
        QuotaMeter m = withAccounts();
        m.event(1, 0, 0, 1, 0);
        m.event(2, 1, 0, 20, 0);
        m.event(3, 2, 0, 300, 0);
        m.event(4, 4, 0, 4000, 0);
        m.event(5, 2, 1, 50000, 0);
        Check.due("the outermost", 321, m.used(0, 0, 0));
        Check.due("the middle", 320, m.used(1, 0, 0));
        Check.due("the inmost", 300, m.used(2, 0, 0));
        Check.due("another tenant's", 0, m.used(3, 0, 0));
        Check.due("the one beside", 4000, m.used(4, 0, 0));
        Check.due("of another resource", 50000, m.used(0, 1, 0));
        m.tick(1200);
        m.event(6, 2, 0, 7, 999);
        m.event(7, 2, 0, 8, 1000);
        Check.due("the last minute of period 0", 328, m.used(0, 0, 0));
        Check.due("the first of period 1", 8, m.used(0, 0, 1));
        Check.due("no use yet", 0, m.used(0, 0, 99));
        Check.due("an account made later starts at 0", 0, m.used(m.account(0, 2), 0, 0));
        Check.due("period -1", -2, m.used(0, 0, -1));
        Check.due("period 100", -2, m.used(0, 0, 100));
        Check.due("resource 4", -2, m.used(0, 4, 0));
        Check.due("resource -1", -2, m.used(0, -1, 0));
        Check.due("account 6", -2, m.used(6, 0, 0));
        Check.due("account -1", -2, m.used(-1, 0, 0));
        for (int i = 0; i < 9; i++) {
            m.tick(10000);
        }
        m.tick(8799);
        Check.due("at the last minute", 0, m.event(8, 0, 2, 5, 99999));
        Check.due("the last period", 5, m.used(0, 2, 99));
    }

    private static void adjustments() {
        QuotaMeter m = withAccounts();
        m.tick(1000);
        Check.due("period 0 is not closed", 0, m.event(1, 0, 0, 1, 999));
        m.close(0);
        Check.due("closed: an adjustment", 1, m.event(2, 2, 0, 1, 999));
        Check.due("period 1 is not", 0, m.event(3, 0, 0, 1, 1000));
        Check.due("not closed for the other tenant", 0, m.event(2, 3, 0, 1, 999));
        Check.due("a duplicate is no adjustment", -6, m.event(2, 0, 0, 1, 999));
        Check.due("it is used in its period", 2, m.used(0, 0, 0));
        Check.due("and not in the next", 1, m.used(0, 0, 1));
    }
}
