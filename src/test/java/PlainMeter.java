import java.math.BigDecimal;
import java.math.BigInteger;
import java.math.RoundingMode;
import java.util.ArrayList;
import java.util.List;

/** The document's words written out a second time, as slowly as you like: it keeps all that came and adds it up anew for each answer. */
final class PlainMeter {
    private record Account(int tenant, int in) { }

    private record Event(long key, int account, int resource, int units, int minute) { }

    private record Tier(long last, int price, int fee) { }

    private record Prices(int mode, int size, List<Tier> tiers) { }

    private record Late(int resource, int units, BigInteger money) { }

    private record Line(int kind, int resource, long quantity, long money) { }

    private record Invoice(int tenant, int period, List<Line> lines) { }

    private static final class Hold {
        int account, resource, units, minute;
        boolean ended;
    }

    private static final class Credit {
        long left;
        int period;
    }

    private static final class Tenant {
        final Prices[] prices = new Prices[4];
        final List<Prices[]> closed = new ArrayList<>();
        final List<Late> late = new ArrayList<>();
        final List<Credit> credits = new ArrayList<>();
        int discount, tax;
        long minimum;
    }

    private final List<Account> accounts = new ArrayList<>();
    private final List<Event> events = new ArrayList<>();
    private final List<Hold> holds = new ArrayList<>();
    private final List<Invoice> invoices = new ArrayList<>();
    private final Tenant[] tenants = new Tenant[6];
    private final int[][] limits = new int[24][4];
    private int now = 0;

    PlainMeter() {
        for (int t = 0; t < 6; t++) {
            tenants[t] = new Tenant();
            for (int r = 0; r < 4; r++) {
                tenants[t].prices[r] = new Prices(0, 1, List.of(new Tier(1, 0, 0)));
            }
        }
        for (int[] row : limits) {
            java.util.Arrays.fill(row, -1);
        }
    }

    private static boolean within(long x, long least, long most) {
        return least <= x && x <= most;
    }

    private boolean isAccount(int account) {
        return within(account, 0, accounts.size() - 1);
    }

    private boolean liesIn(int inner, int outer) {
        return inner == outer || (inner >= 0 && liesIn(accounts.get(inner).in, outer));
    }

    int account(int tenant, int in) {
        if (!within(tenant, 0, 5) || (in != -1 && (!isAccount(in) || accounts.get(in).tenant != tenant))) {
            return -2;
        }
        if (accounts.size() == 24) {
            return -3;
        }
        accounts.add(new Account(tenant, in));
        return accounts.size() - 1;
    }

    int tick(int minutes) {
        if (!within(minutes, 1, 10000)) {
            return -2;
        }
        return now + minutes > 99999 ? -3 : (now += minutes);
    }

    private List<Event> known() {
        return events.stream().filter(e -> now < e.minute + 1000).toList();
    }

    int event(long key, int account, int resource, int units, int minute) {
        if (!isAccount(account) || !within(resource, 0, 3) || !within(units, 1, 1000000) || minute < 0) {
            return -2;
        }
        if (minute > now) {
            return -4;
        }
        if (minute < now - 500) {
            return -5;
        }
        int tenant = accounts.get(account).tenant;
        for (Event e : known()) {
            if (e.key == key && accounts.get(e.account).tenant == tenant) {
                return -6;
            }
        }
        if (known().size() >= 300) {
            return -3;
        }
        int period = minute / 1000;
        BigInteger before = BigInteger.valueOf(quantity(tenant, resource, period));
        events.add(new Event(key, account, resource, units, minute));
        Tenant t = tenants[tenant];
        if (period >= t.closed.size()) {
            return 0;
        }
        Prices then = t.closed.get(period)[resource];
        BigInteger after = BigInteger.valueOf(quantity(tenant, resource, period));
        t.late.add(new Late(resource, units, costOf(then, after).subtract(costOf(then, before))));
        return 1;
    }

    private long quantity(int tenant, int resource, int period) {
        return events.stream()
            .filter(e -> accounts.get(e.account).tenant == tenant && e.resource == resource && e.minute / 1000 == period)
            .mapToLong(Event::units).sum();
    }

    int limit(int account, int resource, int limit) {
        if (!isAccount(account) || !within(resource, 0, 3) || !within(limit, -1, 1000000000)) {
            return -2;
        }
        limits[account][resource] = limit;
        return 0;
    }

    private boolean isOpen(Hold h) {
        return !h.ended && now < h.minute + 60;
    }

    private boolean isAdmitted(int account, int resource, long units) {
        for (int a = account; a >= 0; a = accounts.get(a).in) {
            if (limits[a][resource] >= 0 && used(a, resource, now / 1000) + held(a, resource) + units > limits[a][resource]) {
                return false;
            }
        }
        return true;
    }

    int request(int account, int resource, int units) {
        if (!isAccount(account) || !within(resource, 0, 3) || !within(units, 1, 1000000)) {
            return -2;
        }
        if (count(3) >= 40 || holds.size() >= 200) {
            return -3;
        }
        if (!isAdmitted(account, resource, units)) {
            return -7;
        }
        Hold h = new Hold();
        h.account = account;
        h.resource = resource;
        h.units = units;
        h.minute = now;
        holds.add(h);
        return holds.size() - 1;
    }

    int settle(int hold, int units, long key) {
        if (!within(hold, 0, holds.size() - 1) || !isOpen(holds.get(hold)) || !within(units, 0, holds.get(hold).units)) {
            return -2;
        }
        Hold h = holds.get(hold);
        int answer = units == 0 ? 0 : event(key, h.account, h.resource, units, now);
        h.ended = answer == 0 || answer == 1;
        return answer;
    }

    int drop(int hold) {
        if (!within(hold, 0, holds.size() - 1) || !isOpen(holds.get(hold))) {
            return -2;
        }
        holds.get(hold).ended = true;
        return holds.get(hold).units;
    }

    int mode(int tenant, int resource, int mode, int size) {
        if (!within(tenant, 0, 5) || !within(resource, 0, 3) || !within(mode, 0, 2) || !within(size, 1, 100000)) {
            return -2;
        }
        Prices[] p = tenants[tenant].prices;
        p[resource] = new Prices(mode, size, p[resource].tiers);
        return 0;
    }

    int tier(int tenant, int resource, int j, long last, int price, int fee) {
        if (!within(tenant, 0, 5) || !within(resource, 0, 3) || !within(last, 1, 10000000000L)
            || !within(price, 0, 1000000) || !within(fee, 0, 1000000000)) {
            return -2;
        }
        Prices old = tenants[tenant].prices[resource];
        if (!within(j, 0, Math.min(4, old.tiers.size()))) {
            return -2;
        }
        List<Tier> tiers = new ArrayList<>(old.tiers);
        if (j == tiers.size()) {
            tiers.add(null);
        }
        tiers.set(j, new Tier(last, price, fee));
        for (int i = 0; i + 2 < tiers.size(); i++) {
            if (tiers.get(i).last >= tiers.get(i + 1).last) {
                return -2;
            }
        }
        tenants[tenant].prices[resource] = new Prices(old.mode, old.size, tiers);
        return 0;
    }

    int tiers(int tenant, int resource, int many) {
        if (!within(tenant, 0, 5) || !within(resource, 0, 3) || !within(many, 1, 5)) {
            return -2;
        }
        Prices old = tenants[tenant].prices[resource];
        int stay = Math.min(many, old.tiers.size());
        tenants[tenant].prices[resource] = new Prices(old.mode, old.size, List.copyOf(old.tiers.subList(0, stay)));
        return stay;
    }

    private static BigInteger costOf(Prices p, BigInteger n) {
        BigInteger sum = BigInteger.ZERO;
        for (int j = 0; j < p.tiers.size(); j++) {
            Tier t = p.tiers.get(j);
            BigInteger first = j == 0 ? BigInteger.ONE : BigInteger.valueOf(p.tiers.get(j - 1).last + 1);
            BigInteger last = j == p.tiers.size() - 1 ? n : n.min(BigInteger.valueOf(t.last));
            if (n.compareTo(first) < 0) {
                continue;
            }
            BigDecimal units = new BigDecimal(last.subtract(first).add(BigInteger.ONE));
            BigInteger priced = p.mode == 1 ? n
                : units.divide(BigDecimal.valueOf(p.mode == 2 ? p.size : 1), 0, RoundingMode.CEILING).toBigInteger();
            BigInteger own = priced.multiply(BigInteger.valueOf(t.price)).add(BigInteger.valueOf(t.fee));
            sum = p.mode == 1 ? own : sum.add(own);
        }
        return sum;
    }

    long cost(int tenant, int resource, long n) {
        if (!within(tenant, 0, 5) || !within(resource, 0, 3) || !within(n, 0, 10000000000L)) {
            return -2;
        }
        return costOf(tenants[tenant].prices[resource], BigInteger.valueOf(n)).longValueExact();
    }

    int terms(int tenant, int discount, long minimum, int tax) {
        if (!within(tenant, 0, 5) || !within(discount, 0, 10000) || !within(minimum, 0, 1000000000000L) || !within(tax, 0, 10000)) {
            return -2;
        }
        tenants[tenant].discount = discount;
        tenants[tenant].minimum = minimum;
        tenants[tenant].tax = tax;
        return 0;
    }

    int credit(int tenant, long money, int period) {
        if (!within(tenant, 0, 5) || !within(money, 1, 1000000000000L) || !within(period, tenants[tenant].closed.size(), 99)) {
            return -2;
        }
        List<Credit> credits = tenants[tenant].credits;
        int some = 0;
        for (int i = 0; i < credits.size(); i++) {
            some += left(tenant, i) > 0 ? 1 : 0;
        }
        if (some >= 10 || credits.size() >= 40) {
            return -3;
        }
        Credit c = new Credit();
        c.left = money;
        c.period = period;
        credits.add(c);
        return credits.size() - 1;
    }

    private static long part(long sum, int rate) {
        return BigDecimal.valueOf(sum).multiply(BigDecimal.valueOf(rate, 4)).setScale(0, RoundingMode.HALF_EVEN).longValueExact();
    }

    private static long sum(List<Line> lines) {
        return lines.stream().mapToLong(Line::money).sum();
    }

    int close(int tenant) {
        if (!within(tenant, 0, 5)) {
            return -2;
        }
        Tenant t = tenants[tenant];
        int period = t.closed.size();
        if (now <= 1000 * period + 999) {
            return -4;
        }
        if (invoices.size() >= 60) {
            return -3;
        }
        List<Line> lines = new ArrayList<>();
        for (int r = 0; r < 4; r++) {
            long quantity = quantity(tenant, r, period);
            if (quantity > 0) {
                lines.add(new Line(0, r, quantity, cost(tenant, r, quantity)));
            }
        }
        addLate(t, lines);
        addPart(2, -part(sum(lines), t.discount), lines);
        addPart(3, Math.max(0, t.minimum - sum(lines)), lines);
        addPart(4, part(sum(lines), t.tax), lines);
        addCredits(t, period, lines);
        t.closed.add(t.prices.clone());
        t.late.clear();
        invoices.add(new Invoice(tenant, period, lines));
        return invoices.size() - 1;
    }

    private static void addLate(Tenant t, List<Line> lines) {
        for (int r = 0; r < 4; r++) {
            long quantity = 0;
            BigInteger money = BigInteger.ZERO;
            for (Late late : t.late) {
                if (late.resource == r) {
                    quantity += late.units;
                    money = money.add(late.money);
                }
            }
            if (quantity > 0) {
                lines.add(new Line(1, r, quantity, money.longValueExact()));
            }
        }
    }

    private static void addPart(int kind, long money, List<Line> lines) {
        if (money != 0) {
            lines.add(new Line(kind, -1, 0, money));
        }
    }

    private static void addCredits(Tenant t, int period, List<Line> lines) {
        List<Credit> good = new ArrayList<>(t.credits.stream().filter(c -> c.period >= period && c.left > 0).toList());
        good.sort(java.util.Comparator.comparingInt(c -> c.period));
        for (Credit c : good) {
            long part = Math.min(c.left, Math.max(0, sum(lines)));
            c.left -= part;
            addPart(5, -part, lines);
        }
    }

    long used(int account, int resource, int period) {
        if (!isAccount(account) || !within(resource, 0, 3) || !within(period, 0, 99)) {
            return -2;
        }
        return events.stream()
            .filter(e -> e.resource == resource && e.minute / 1000 == period && liesIn(e.account, account))
            .mapToLong(Event::units).sum();
    }

    int held(int account, int resource) {
        if (!isAccount(account) || !within(resource, 0, 3)) {
            return -2;
        }
        return holds.stream().filter(h -> isOpen(h) && h.resource == resource && liesIn(h.account, account)).mapToInt(h -> h.units).sum();
    }

    int room(int account, int resource) {
        if (!isAccount(account) || !within(resource, 0, 3)) {
            return -2;
        }
        int least = 0;
        int most = 1000000;
        while (least < most) {
            int middle = (least + most + 1) / 2;
            if (isAdmitted(account, resource, middle)) {
                least = middle;
            } else {
                most = middle - 1;
            }
        }
        return least;
    }

    int hold(int hold, int what) {
        if (!within(hold, 0, holds.size() - 1) || !within(what, 0, 4)) {
            return -2;
        }
        Hold h = holds.get(hold);
        return new int[] {h.account, h.resource, h.units, h.minute, isOpen(h) ? 1 : 0}[what];
    }

    long line(int invoice, int line, int what) {
        if (!within(invoice, 0, invoices.size() - 1) || !within(line, 0, invoices.get(invoice).lines.size() - 1) || !within(what, 0, 3)) {
            return -2;
        }
        Line l = invoices.get(invoice).lines.get(line);
        return new long[] {l.kind, l.resource, l.quantity, l.money}[what];
    }

    long invoice(int invoice, int what) {
        if (!within(invoice, 0, invoices.size() - 1) || !within(what, 0, 3)) {
            return -2;
        }
        Invoice i = invoices.get(invoice);
        return new long[] {i.tenant, i.period, i.lines.size(), sum(i.lines)}[what];
    }

    long left(int tenant, int credit) {
        if (!within(tenant, 0, 5) || !within(credit, 0, tenants[tenant].credits.size() - 1)) {
            return -2;
        }
        Credit c = tenants[tenant].credits.get(credit);
        return c.period < tenants[tenant].closed.size() ? 0 : c.left;
    }

    int count(int what) {
        if (!within(what, 0, 4)) {
            return -2;
        }
        int open = (int) holds.stream().filter(this::isOpen).count();
        return new int[] {now, accounts.size(), known().size(), open, invoices.size()}[what];
    }

    int closed(int tenant) {
        return within(tenant, 0, 5) ? tenants[tenant].closed.size() : -2;
    }
}
