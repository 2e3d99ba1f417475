/** Promises 1 (a new object), 2 (account), 3 (tick) and 23 (count). */
public final class AccountTest {
    public static void main(String[] args) {
        newObject();
        newPrices();
        accounts();
        ticks();
        counts();
        Check.end();
    }

    private static void newObject() {
        QuotaMeter m = new QuotaMeter();
        for (int what = 0; what <= 4; what++) {
            Check.due("count of a new object " + what, 0, m.count(what));
        }
        for (int tenant = 0; tenant < 6; tenant++) {
            Check.due("closed of a new object", 0, m.closed(tenant));
            Check.due("left of a new object", -2, m.left(tenant, 0));
        }
        Check.due("used of a new object", -2, m.used(0, 0, 0));
        Check.due("hold of a new object", -2, m.hold(0, 0));
        Check.due("line of a new object", -2, m.line(0, 0, 0));
        Check.due("invoice of a new object", -2, m.invoice(0, 0));
    }

    private static void newPrices() {
        QuotaMeter m = new QuotaMeter();
        for (int tenant = 0; tenant < 6; tenant++) {
            for (int resource = 0; resource < 4; resource++) {
                Check.due("cost at first", 0, m.cost(tenant, resource, 10000000000L));
                Check.due("tiers at first", 1, m.tiers(tenant, resource, 5));
            }
        }
        Check.due("the first LAST is 1: a tier behind it", 0, m.tier(0, 0, 1, 1, 10, 0));
        Check.due("one unit is in tier 0", 0, m.cost(0, 0, 1));
        Check.due("two units are not", 10, m.cost(0, 0, 2));
        m.mode(1, 0, 2, 7);
        m.tier(1, 0, 0, 1, 10, 0);
        m.tier(2, 0, 0, 1, 10, 0);
        Check.due("MODE 0 at first", 80, m.cost(2, 0, 8));
        m.account(0, -1);
        m.event(1, 0, 0, 5, 0);
        m.tick(1000);
        m.close(0);
        Check.due("no terms at first: usage alone", 1, m.invoice(0, 2));
        Check.due("its money", 40, m.invoice(0, 3));
    }

    private static void accounts() {
        QuotaMeter m = new QuotaMeter();
        Check.due("the first account", 0, m.account(5, -1));
        Check.due("one in it", 1, m.account(5, 0));
        Check.due("in an account of another tenant", -2, m.account(4, 0));
        Check.due("in one that is not there", -2, m.account(5, 2));
        Check.due("in -2", -2, m.account(5, -2));
        Check.due("in the least int", -2, m.account(5, Integer.MIN_VALUE));
        Check.due("in the greatest int", -2, m.account(5, Integer.MAX_VALUE));
        Check.due("tenant 6", -2, m.account(6, -1));
        Check.due("tenant -1", -2, m.account(-1, -1));
        Check.due("nothing came of these", 2, m.count(1));
        for (int i = 2; i < 24; i++) {
            Check.due("account " + i, i, m.account(i % 6, -1));
        }
        Check.due("the 25th", -3, m.account(0, -1));
        Check.due("the 25th, in another", -3, m.account(5, 1));
        Check.due("BAD before FULL: tenant", -2, m.account(6, -1));
        Check.due("BAD before FULL: in", -2, m.account(0, 24));
        Check.due("24 stay", 24, m.count(1));
    }

    private static void ticks() {
        QuotaMeter m = new QuotaMeter();
        Check.due("tick 0", -2, m.tick(0));
        Check.due("tick -1", -2, m.tick(-1));
        Check.due("tick least", -2, m.tick(Integer.MIN_VALUE));
        Check.due("tick 10001", -2, m.tick(10001));
        Check.due("tick greatest", -2, m.tick(Integer.MAX_VALUE));
        Check.due("NOW stays", 0, m.count(0));
        Check.due("tick 1", 1, m.tick(1));
        for (int i = 1; i <= 9; i++) {
            Check.due("tick 10000", 10000 * i + 1, m.tick(10000));
        }
        Check.due("tick over the end", -3, m.tick(9999));
        Check.due("NOW stays before the end", 90001, m.count(0));
        Check.due("tick to the end", 99999, m.tick(9998));
        Check.due("tick at the end", -3, m.tick(1));
        Check.due("BAD at the end", -2, m.tick(10001));
        Check.due("NOW at the end", 99999, m.count(0));
    }

    private static void counts() {
        QuotaMeter m = new QuotaMeter();
        m.tick(3);
        for (int i = 0; i < 5; i++) {
            m.account(i, -1);
        }
        m.event(1, 0, 0, 1, 3);
        m.event(1, 1, 0, 1, 3);
        m.request(0, 0, 1);
        Check.due("NOW", 3, m.count(0));
        Check.due("accounts", 5, m.count(1));
        Check.due("keys", 2, m.count(2));
        Check.due("holds", 1, m.count(3));
        m.tick(997);
        m.close(2);
        m.close(3);
        m.close(4);
        Check.due("invoices", 3, m.count(4));
        Check.due("no open holds by then", 0, m.count(3));
        Check.due("count -1", -2, m.count(-1));
        Check.due("count 5", -2, m.count(5));
        Check.due("count greatest", -2, m.count(Integer.MAX_VALUE));
    }
}
