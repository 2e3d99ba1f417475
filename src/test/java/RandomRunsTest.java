import java.util.List;
import java.util.Random;
import java.util.Set;
import java.util.TreeSet;

/** Runs of 512 calls by a fixed seed, each asked of the class and of the document written out plainly. */
public final class RandomRunsTest {
    private static final int RUNS = 400;
    private static final int CALLS = 512;
    private static final int KINDS = 23;
    /** How often each call comes, in the order of the document's face; a run is of one of these kinds. */
    private static final int[][] WEIGHTS = {
        {30, 20, 60, 10, 40, 20, 6, 6, 12, 3, 6, 6, 10, 25, 6, 3, 5, 5, 8, 4, 3, 3, 3},
        {3, 15, 90, 0, 0, 0, 0, 6, 12, 2, 0, 5, 8, 40, 3, 0, 0, 0, 15, 5, 5, 2, 0},
        {6, 10, 20, 20, 90, 25, 8, 0, 0, 0, 0, 0, 0, 0, 5, 10, 15, 10, 0, 0, 0, 3, 0},
        {1, 1, 300, 3, 12, 6, 3, 2, 2, 1, 1, 1, 1, 1, 6, 2, 2, 1, 1, 1, 1, 6, 1},
        {2, 40, 40, 0, 0, 0, 0, 4, 8, 2, 0, 10, 60, 60, 0, 0, 0, 0, 10, 5, 20, 2, 3},
        {2, 40, 30, 3, 90, 20, 30, 0, 0, 0, 0, 0, 0, 0, 2, 5, 5, 20, 0, 0, 0, 5, 0},
        {2, 40, 90, 0, 0, 0, 0, 8, 24, 2, 0, 8, 6, 60, 0, 0, 0, 0, 10, 5, 3, 0, 0}
    };
    /** The kind in which so many keys come that some find no place. */
    private static final int KEY_KIND = 3;
    /** The kind in which adjustments are worth less than nothing, so that sums fall below 0. */
    private static final int LATE_KIND = 6;

    /** Every refusal that the document names for a call, and the two answers that it has besides for an event. */
    private static final String[] TO_MEET = {
        "account BAD FULL", "tick BAD FULL", "event 0 1 BAD EARLY LATE DUPLICATE FULL", "limit BAD", "request BAD FULL REFUSED",
        "settle BAD DUPLICATE FULL", "drop BAD", "mode BAD", "tier BAD", "tiers BAD", "cost BAD", "terms BAD", "credit BAD FULL",
        "close BAD EARLY FULL", "used BAD", "held BAD", "room BAD", "hold BAD", "line BAD", "invoice BAD", "left BAD", "count BAD",
        "closed BAD"
    };
    private static final List<String> ANSWERS = List.of("1", "0", "NONE", "BAD", "FULL", "EARLY", "LATE", "DUPLICATE", "REFUSED");
    private static final Set<String> MET = new TreeSet<>();

    private final Random random;
    private final int[] weights;
    private final int wild;
    private final int tenantsUsed;
    private final int longest;
    private final boolean isLateKind;
    private final boolean isKeyKind;
    private final QuotaMeter meter = new QuotaMeter();
    private final PlainMeter plain = new PlainMeter();

    private RandomRunsTest(long seed) {
        random = new Random(seed);
        weights = WEIGHTS[(int) (seed % WEIGHTS.length)];
        wild = 1 + random.nextInt(60);
        isLateKind = weights == WEIGHTS[LATE_KIND];
        isKeyKind = weights == WEIGHTS[KEY_KIND];
        tenantsUsed = 1 + random.nextInt(isLateKind ? 1 : random.nextInt(6) + 1);
        longest = new int[] {20, 100, 400, 1200, 3000}[random.nextInt(5)];
    }

    public static void main(String[] args) {
        for (int run = 0; run < RUNS; run++) {
            new RandomRunsTest(run).go(run);
        }
        for (String call : TO_MEET) {
            String[] words = call.split(" ");
            for (int i = 1; i < words.length; i++) {
                Check.holds("a run met " + words[0] + " " + words[i], MET.contains(words[0] + " " + words[i]));
            }
        }
        Check.holds("a run met a sum below 0", MET.contains("sum below 0"));
        Check.end();
    }

    private void go(int run) {
        for (int i = 0; i < CALLS; i++) {
            ask(run, i < 3 ? 0 : pick());
            for (int what = 0; what < 5; what++) {
                Check.due("run " + run + " count(" + what + ")", plain.count(what), meter.count(what));
            }
        }
        for (int i = 0; i < 24; i++) {
            for (int resource = 0; resource < 4; resource++) {
                Check.due("run " + run + " room(" + i + ", " + resource + ")", plain.room(i, resource), meter.room(i, resource));
                Check.due("run " + run + " held(" + i + ", " + resource + ")", plain.held(i, resource), meter.held(i, resource));
                for (int period = 0; period < 100; period += period < 3 ? 1 : 7) {
                    String call = "run " + run + " used(" + i + ", " + resource + ", " + period + ")";
                    Check.due(call, plain.used(i, resource, period), meter.used(i, resource, period));
                }
            }
        }
        compareInvoices(run);
    }

    private void compareInvoices(int run) {
        for (int i = 0; i < 60; i++) {
            meetSum(i);
            for (int what = 0; what < 4; what++) {
                Check.due("run " + run + " invoice(" + i + ", " + what + ")", plain.invoice(i, what), meter.invoice(i, what));
                for (int line = 0; line < 22; line++) {
                    String call = "run " + run + " line(" + i + ", " + line + ", " + what + ")";
                    Check.due(call, plain.line(i, line, what), meter.line(i, line, what));
                }
            }
        }
        for (int tenant = 0; tenant < 6; tenant++) {
            for (int credit = 0; credit < 41; credit++) {
                Check.due("run " + run + " left(" + tenant + ", " + credit + ")", plain.left(tenant, credit), meter.left(tenant, credit));
            }
        }
    }

    /** Usage and adjustments are the kinds 0 and 1. */
    private void meetSum(int invoice) {
        long sum = 0;
        for (int line = 0; line < plain.invoice(invoice, 2) && plain.line(invoice, line, 0) < 2; line++) {
            sum += plain.line(invoice, line, 3);
        }
        if (sum < 0) {
            MET.add("sum below 0");
        }
    }

    private int pick() {
        int sum = 0;
        for (int weight : weights) {
            sum += weight;
        }
        int at = random.nextInt(sum);
        for (int kind = 0; kind < KINDS; kind++) {
            at -= weights[kind];
            if (at < 0) {
                return kind;
            }
        }
        return 0;
    }

    /** A number between these; now and then one of their edges, or one beside them. */
    private long number(long least, long most) {
        if (random.nextInt(wild * 8) == 0) {
            long[] beside = {least - 1, most + 1, Integer.MIN_VALUE, Integer.MAX_VALUE};
            return beside[random.nextInt(4)];
        }
        if (random.nextInt(10) == 0) {
            return random.nextBoolean() ? least : most;
        }
        return least + (long) (random.nextDouble() * (most - least + 1));
    }

    private int in(int least, int most) {
        return (int) number(least, most);
    }

    private int tenant() {
        return in(0, tenantsUsed - 1);
    }

    private int someAccount() {
        return in(0, Math.max(0, plain.count(1) - 1));
    }

    private int resource() {
        return in(0, random.nextInt(3) == 0 ? 3 : 1);
    }

    private int units() {
        int[] most = isLateKind ? new int[] {3, 20, 40, 60} : new int[] {3, 20, 1000, 1000000};
        return in(1, most[random.nextInt(4)]);
    }

    private long money() {
        long[] most = {3, 100, 100000, 1000000000000L};
        return number(1, most[random.nextInt(4)]);
    }

    private long key() {
        return random.nextInt(isKeyKind ? 20 : 3) == 0 ? number(0, 5) : random.nextLong();
    }

    private int minute() {
        int now = plain.count(0);
        int[] back = {0, 1, now % 1000, now % 1000 + 1, 500, 501, -1};
        return random.nextInt(isKeyKind ? 20 : 3) == 0 ? now - back[random.nextInt(7)] : in(Math.max(0, now - 500), now);
    }

    private int minutes() {
        int[] some = {1, 59, 60, 500, 999, 1000, 1000 - plain.count(0) % 1000};
        return random.nextInt(3) == 0 ? some[random.nextInt(7)] : in(1, longest);
    }

    private int someHold() {
        int newest = 0;
        while (plain.hold(newest + 1, 0) >= 0) {
            newest++;
        }
        return in(Math.max(0, newest - 20), newest);
    }

    private int rate() {
        return random.nextInt(3) == 0 ? 5000 * random.nextInt(3) : in(0, 10000);
    }

    private void ask(int run, int kind) {
        int t = tenant();
        int a = someAccount();
        int r = resource();
        switch (kind) {
            case 0 -> { int in = random.nextInt(3) == 0 ? -1 : a; tell(run, "account", plain.account(t, in), meter.account(t, in), t, in); }
            case 1 -> { int n = minutes(); tell(run, "tick", plain.tick(n), meter.tick(n), n); }
            case 2 -> {
                long k = key();
                int u = units();
                int m = minute();
                tell(run, "event", plain.event(k, a, r, u, m), meter.event(k, a, r, u, m), k, a, r, u, m);
            }
            case 3 -> { int n = random.nextInt(4) == 0 ? -1 : in(0, random.nextBoolean() ? 3000000 : 300); tell(run, "limit", plain.limit(a, r, n), meter.limit(a, r, n), a, r, n); }
            case 4 -> { int u = units(); tell(run, "request", plain.request(a, r, u), meter.request(a, r, u), a, r, u); }
            case 5 -> {
                int h = someHold();
                int u = in(0, Math.max(0, plain.hold(h, 2)));
                long k = key();
                tell(run, "settle", plain.settle(h, u, k), meter.settle(h, u, k), h, u, k);
            }
            case 6 -> { int h = someHold(); tell(run, "drop", plain.drop(h), meter.drop(h), h); }
            case 7 -> { int m = isLateKind ? 1 : in(0, 2); int s = in(1, random.nextInt(4) == 0 ? 100000 : 9); tell(run, "mode", plain.mode(t, r, m, s), meter.mode(t, r, m, s), t, r, m, s); }
            case 8 -> askTier(run, t, r);
            case 9 -> { int n = in(1, 5); tell(run, "tiers", plain.tiers(t, r, n), meter.tiers(t, r, n), t, r, n); }
            case 10 -> { long n = number(0, random.nextBoolean() ? 10000000000L : 3000); tell(run, "cost", plain.cost(t, r, n), meter.cost(t, r, n), t, r, n); }
            default -> askMore(run, kind, t, a, r);
        }
    }

    private void askTier(int run, int t, int r) {
        int j = in(0, 4);
        long last = number(1, random.nextInt(6) == 0 ? 10000000000L : 30L * (j + 1));
        int price = in(0, random.nextInt(6) == 0 ? 1000000 : 100);
        int fee = in(0, random.nextInt(6) == 0 ? 1000000000 : 100);
        tell(run, "tier", plain.tier(t, r, j, last, price, fee), meter.tier(t, r, j, last, price, fee), t, r, j, last, price, fee);
    }

    private void askMore(int run, int kind, int t, int a, int r) {
        int period = plain.count(0) / 1000;
        int i = in(Math.max(0, plain.count(4) - 3), Math.max(0, plain.count(4) - 1));
        switch (kind) {
            case 11 -> {
                int d = rate();
                long m = random.nextBoolean() ? 0 : money();
                int x = rate();
                tell(run, "terms", plain.terms(t, d, m, x), meter.terms(t, d, m, x), t, d, m, x);
            }
            case 12 -> { long m = money(); int p = in(Math.max(0, plain.closed(t)), Math.min(99, period + 2)); tell(run, "credit", plain.credit(t, m, p), meter.credit(t, m, p), t, m, p); }
            case 13 -> tell(run, "close", plain.close(t), meter.close(t), t);
            case 14 -> { int p = in(Math.max(0, period - 2), period); tell(run, "used", plain.used(a, r, p), meter.used(a, r, p), a, r, p); }
            case 15 -> tell(run, "held", plain.held(a, r), meter.held(a, r), a, r);
            case 16 -> tell(run, "room", plain.room(a, r), meter.room(a, r), a, r);
            case 17 -> { int h = someHold(); int w = in(0, 4); tell(run, "hold", plain.hold(h, w), meter.hold(h, w), h, w); }
            case 18 -> { int l = in(0, 8); int w = in(0, 3); tell(run, "line", plain.line(i, l, w), meter.line(i, l, w), i, l, w); }
            case 19 -> { int w = in(0, 3); tell(run, "invoice", plain.invoice(i, w), meter.invoice(i, w), i, w); }
            case 20 -> { int c = in(0, 40); tell(run, "left", plain.left(t, c), meter.left(t, c), t, c); }
            case 21 -> { int w = in(0, 4); tell(run, "count", plain.count(w), meter.count(w), w); }
            default -> tell(run, "closed", plain.closed(t), meter.closed(t), t);
        }
    }

    private static void tell(int run, String call, long want, long got, long... arguments) {
        int place = want > 1 || want < -7 ? -1 : (int) (1 - want);
        if (place >= 0) {
            MET.add(call + " " + ANSWERS.get(place));
        }
        Check.due("run " + run + " " + call + java.util.Arrays.toString(arguments), want, got);
    }
}
