import java.util.ArrayList;
import java.util.List;

/** Calls that bring out the whole state of a meter, what can be asked for and what shows only when more is done. */
final class Later {
    private static final int TENANTS = 6;
    private static final int RESOURCES = 4;
    private static final long[] AMOUNTS = {0, 1, 2, 3, 9, 10, 11, 19, 20, 21, 30, 31, 40, 41, 1000, 10000000000L};
    private static final long[] KEYS = {Long.MIN_VALUE, -1, 0, 1, 2, 3, 4, 5, 6, 7, 8, 9, 300, 301, 302, Long.MAX_VALUE};

    private final int now;
    private final int accounts;
    private final int invoices;

    Later(int now, int accounts, int invoices) {
        this.now = now;
        this.accounts = accounts;
        this.invoices = invoices;
    }

    /** Calls that alter nothing, so that they may be asked in parts, each of a new object. */
    List<Edge.Call> questions() {
        List<Edge.Call> all = new ArrayList<>();
        for (int i = 0; i < 5; i++) {
            int what = i;
            all.add(m -> m.count(what));
        }
        for (int i = 0; i < TENANTS; i++) {
            int tenant = i;
            all.add(m -> m.closed(tenant));
            for (int k = 0; k <= 40; k++) {
                int credit = k;
                all.add(m -> m.left(tenant, credit));
            }
        }
        for (int account = 0; account <= accounts; account++) {
            askAccount(all, account);
        }
        for (int k = 0; k < 1000; k++) {
            int hold = k / 5;
            int what = k % 5;
            all.add(m -> m.hold(hold, what));
        }
        for (int invoice = 0; invoice <= invoices; invoice++) {
            askInvoice(all, invoice, 21);
        }
        return all;
    }

    private static void askAccount(List<Edge.Call> all, int account) {
        for (int r = 0; r < RESOURCES; r++) {
            int resource = r;
            all.add(m -> m.held(account, resource));
            all.add(m -> m.room(account, resource));
            for (int p = 0; p < 100; p++) {
                int period = p;
                all.add(m -> m.used(account, resource, period));
            }
        }
    }

    private static void askInvoice(List<Edge.Call> all, int invoice, int lines) {
        for (int k = 0; k < 4 + 4 * lines; k++) {
            int what = k % 4;
            int line = k / 4 - 1;
            all.add(line < 0 ? m -> m.invoice(invoice, what) : m -> m.line(invoice, line, what));
        }
    }

    /** Runs of calls that alter the meter, each begun on a new object. */
    List<List<Edge.Call>> stories() {
        List<List<Edge.Call>> all = new ArrayList<>();
        all.add(keys());
        all.add(holds());
        all.add(time());
        for (int tenant = 0; tenant < TENANTS; tenant++) {
            all.add(closings(tenant));
            all.add(credits(tenant));
            all.add(accountsMore(tenant));
            for (int resource = 0; resource < RESOURCES; resource++) {
                all.add(prices(tenant, resource));
            }
        }
        return all;
    }

    private List<Edge.Call> keys() {
        List<Edge.Call> all = new ArrayList<>();
        for (int a = 0; a < Math.min(accounts, 5); a++) {
            int account = a;
            for (long key : KEYS) {
                all.add(m -> m.event(key, account, 0, 1, now));
            }
            all.add(m -> m.count(2));
        }
        return all;
    }

    private List<Edge.Call> holds() {
        List<Edge.Call> all = new ArrayList<>();
        for (int step : new int[] {1, 28, 30, 1, 500, 400}) {
            all.add(m -> m.tick(step));
            all.add(m -> m.count(2));
            all.add(m -> m.count(3));
            for (int k = 0; k < 4; k++) {
                int account = k;
                all.add(m -> m.held(account, 0));
                all.add(m -> m.room(account, 0));
                all.add(m -> m.request(account, 0, 1));
                all.add(m -> m.settle(account, 1, 1000 + account));
                all.add(m -> m.drop(account + 1));
            }
        }
        return all;
    }

    private static List<Edge.Call> time() {
        List<Edge.Call> all = new ArrayList<>();
        for (int i = 0; i < 10; i++) {
            all.add(m -> m.tick(10000));
        }
        for (int i = 0; i < 10; i++) {
            all.add(m -> m.tick(1000));
        }
        return all;
    }

    private List<Edge.Call> closings(int tenant) {
        List<Edge.Call> all = new ArrayList<>();
        all.add(m -> m.close(tenant));
        for (int round = 0; round < 2; round++) {
            int then = now + 1000 * round;
            for (int account = 0; account < Math.min(accounts, 5); account++) {
                eventsOf(all, account, then);
            }
            all.add(m -> m.tick(1000));
            all.add(m -> m.close(tenant));
        }
        for (int i = 0; i < 3; i++) {
            askInvoice(all, invoices + i, 8);
        }
        return all;
    }

    private static void eventsOf(List<Edge.Call> all, int account, int then) {
        for (int r = 0; r < 2; r++) {
            int resource = r;
            long key = 100000L + 10L * then + 2 * account + resource;
            all.add(m -> m.event(key, account, resource, 7, Math.max(0, then - 450)));
            all.add(m -> m.event(-key, account, resource, 20, then));
        }
    }

    private static List<Edge.Call> credits(int tenant) {
        List<Edge.Call> all = new ArrayList<>();
        for (int i = 0; i < 11; i++) {
            all.add(m -> m.credit(tenant, 1, 99));
        }
        return all;
    }

    private List<Edge.Call> accountsMore(int tenant) {
        List<Edge.Call> all = new ArrayList<>();
        for (int k = -1; k <= Math.min(accounts, 22); k++) {
            int in = k;
            all.add(m -> m.account(tenant, in));
        }
        return all;
    }

    /** The number of tiers, each one's units, price and fee, and the LAST of the last tier, which only a tier more brings out. */
    private static List<Edge.Call> prices(int tenant, int resource) {
        List<Edge.Call> all = new ArrayList<>();
        askCosts(all, tenant, resource);
        all.add(m -> m.tiers(tenant, resource, 5));
        for (int k = 4; k >= 1; k--) {
            int j = k;
            all.add(m -> m.tier(tenant, resource, j, 1, 1, 1));
            askCosts(all, tenant, resource);
        }
        all.add(m -> m.mode(tenant, resource, 1, 1));
        for (int k = 4; k >= 1; k--) {
            int many = k;
            all.add(m -> m.tiers(tenant, resource, many));
            askCosts(all, tenant, resource);
        }
        return all;
    }

    private static void askCosts(List<Edge.Call> all, int tenant, int resource) {
        for (long n : AMOUNTS) {
            all.add(m -> m.cost(tenant, resource, n));
        }
    }
}
