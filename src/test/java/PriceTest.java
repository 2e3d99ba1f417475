/** Promises 9 (mode), 10 (tier), 11 (tiers) and 12 (cost). */
public final class PriceTest {
    private static final long MOST = 10000000000L;

    public static void main(String[] args) {
        modes();
        tierArguments();
        risingLasts();
        fewerTiers();
        costs();
        greatCosts();
        Check.end();
    }

    /** Tiers 1 .. 10, 11 .. 100 and those behind. */
    private static QuotaMeter withTiers() {
        QuotaMeter m = new QuotaMeter();
        m.tier(2, 3, 0, 10, 100, 5);
        m.tier(2, 3, 1, 100, 50, 7);
        m.tier(2, 3, 2, 1, 20, 9);
        return m;
    }

    private static void modes() {
        QuotaMeter m = withTiers();
        Check.due("mode 2", 0, m.mode(2, 3, 2, 8));
        Check.due("mode 3", -2, m.mode(2, 3, 3, 8));
        Check.due("mode -1", -2, m.mode(2, 3, -1, 8));
        Check.due("size 0", -2, m.mode(2, 3, 0, 0));
        Check.due("size 100001", -2, m.mode(2, 3, 1, 100001));
        Check.due("tenant 6", -2, m.mode(6, 3, 0, 1));
        Check.due("tenant -1", -2, m.mode(-1, 3, 0, 1));
        Check.due("resource 4", -2, m.mode(2, 4, 0, 1));
        Check.due("resource -1", -2, m.mode(2, -1, 0, 1));
        Check.due("BAD ones change nothing, tiers stay", 262, m.cost(2, 3, 18));
        Check.due("the greatest size", 0, m.mode(2, 3, 2, 100000));
        Check.due("a package of each tier", 100 + 5 + 50 + 7 + 20 + 9, m.cost(2, 3, 100100));
        Check.due("one more in the last", 100 + 5 + 50 + 7 + 40 + 9, m.cost(2, 3, 100101));
        Check.due("mode 0", 0, m.mode(2, 3, 0, 100000));
        Check.due("does not look at the size", 1062, m.cost(2, 3, 11));
        Check.due("another tenant's are its own", 0, m.cost(1, 3, 11));
        Check.due("another resource's too", 0, m.cost(2, 2, 11));
    }

    private static void tierArguments() {
        QuotaMeter m = new QuotaMeter();
        Check.due("tenant 6", -2, m.tier(6, 0, 0, 1, 1, 1));
        Check.due("tenant -1", -2, m.tier(-1, 0, 0, 1, 1, 1));
        Check.due("resource 4", -2, m.tier(0, 4, 0, 1, 1, 1));
        Check.due("resource -1", -2, m.tier(0, -1, 0, 1, 1, 1));
        Check.due("tier -1", -2, m.tier(0, 0, -1, 1, 1, 1));
        Check.due("tier 2 of one", -2, m.tier(0, 0, 2, 1, 1, 1));
        Check.due("the greatest j", -2, m.tier(0, 0, Integer.MAX_VALUE, 1, 1, 1));
        Check.due("last 0, though it is the last tier's", -2, m.tier(0, 0, 0, 0, 1, 1));
        Check.due("last 10^10 + 1", -2, m.tier(0, 0, 0, MOST + 1, 1, 1));
        Check.due("price -1", -2, m.tier(0, 0, 0, 1, -1, 1));
        Check.due("price 1000001", -2, m.tier(0, 0, 0, 1, 1000001, 1));
        Check.due("fee -1", -2, m.tier(0, 0, 0, 1, 1, -1));
        Check.due("fee 1000000001", -2, m.tier(0, 0, 0, 1, 1, 1000000001));
        Check.due("BAD ones change nothing", 0, m.cost(0, 0, 1));
        Check.due("none was added", 1, m.tiers(0, 0, 5));
        Check.due("the greatest of all", 0, m.tier(0, 0, 0, MOST, 1000000, 1000000000));
        Check.due("cost", 1001000000, m.cost(0, 0, 1));
        Check.due("the least of all", 0, m.tier(0, 0, 0, 1, 0, 0));
        Check.due("cost", 0, m.cost(0, 0, 1));
    }

    private static void risingLasts() {
        QuotaMeter m = withTiers();
        Check.due("the last tier's is not looked at", 0, m.tier(2, 3, 2, 100, 20, 9));
        Check.due("one more makes it be looked at", -2, m.tier(2, 3, 3, 500, 1, 1));
        Check.due("altered so that it rises", 0, m.tier(2, 3, 2, 101, 20, 9));
        Check.due("one more", 0, m.tier(2, 3, 3, 1, 1, 1));
        Check.due("like the one before", -2, m.tier(2, 3, 1, 10, 1, 1));
        Check.due("like the one behind", -2, m.tier(2, 3, 1, 101, 1, 1));
        Check.due("between", 0, m.tier(2, 3, 1, 11, 50, 7));
        Check.due("the first, like the second", -2, m.tier(2, 3, 0, 11, 1, 1));
        Check.due("the last but one, like the one before", -2, m.tier(2, 3, 2, 11, 1, 1));
        Check.due("the last but one, with the last one's not being looked at", 0, m.tier(2, 3, 2, MOST, 1, 1));
        Check.due("tier 5 of four", -2, m.tier(2, 3, 5, 1, 1, 1));
        Check.due("a fifth, behind one that does not rise", -2, m.tier(2, 3, 4, 1, 1, 1));
        Check.due("four", 4, m.tiers(2, 3, 5));
        m.tier(2, 3, 2, 50, 1, 1);
        m.tier(2, 3, 3, 51, 1, 1);
        Check.due("now the fifth", 0, m.tier(2, 3, 4, 1, 1, 1));
        Check.due("the fifth, rising", 0, m.tier(2, 3, 4, 52, 1, 1));
        Check.due("a sixth", -2, m.tier(2, 3, 5, 100, 1, 1));
        Check.due("five", 5, m.tiers(2, 3, 5));
    }

    private static void fewerTiers() {
        QuotaMeter m = withTiers();
        Check.due("many 0", -2, m.tiers(2, 3, 0));
        Check.due("many 6", -2, m.tiers(2, 3, 6));
        Check.due("tenant 6", -2, m.tiers(6, 3, 1));
        Check.due("tenant -1", -2, m.tiers(-1, 3, 1));
        Check.due("resource 4", -2, m.tiers(2, 4, 1));
        Check.due("resource -1", -2, m.tiers(2, -1, 1));
        Check.due("more than there are", 3, m.tiers(2, 3, 4));
        Check.due("as many as there are", 3, m.tiers(2, 3, 3));
        Check.due("two stay", 2, m.tiers(2, 3, 2));
        Check.due("the second goes on", 1005 + 490 * 50 + 7, m.cost(2, 3, 500));
        Check.due("the third is gone", -2, m.tier(2, 3, 3, 500, 1, 1));
        Check.due("one stays", 1, m.tiers(2, 3, 1));
        Check.due("the first goes on", 50005, m.cost(2, 3, 500));
        Check.due("its last is as it was", 0, m.tier(2, 3, 1, 1, 1, 0));
        Check.due("and counts again", 1006, m.cost(2, 3, 11));
    }

    private static void costs() {
        QuotaMeter m = withTiers();
        long[] n = {0, 1, 10, 11, 18, 19, 100, 101, 500};
        long[][] want = {
            {0, 105, 1005, 1062, 1412, 1462, 5512, 5541, 13521},
            {0, 105, 1005, 557, 907, 957, 5007, 2029, 10009},
            {0, 105, 205, 262, 262, 312, 812, 841, 1821}
        };
        for (int mode = 0; mode < 3; mode++) {
            m.mode(2, 3, mode, 8);
            for (int i = 0; i < n.length; i++) {
                Check.due("mode " + mode + ", cost of " + n[i], want[mode][i], m.cost(2, 3, n[i]));
            }
        }
        Check.due("-1 units", -2, m.cost(2, 3, -1));
        Check.due("10^10 + 1 units", -2, m.cost(2, 3, MOST + 1));
        Check.due("the least long", -2, m.cost(2, 3, Long.MIN_VALUE));
        Check.due("tenant 6", -2, m.cost(6, 3, 1));
        Check.due("tenant -1", -2, m.cost(-1, 3, 1));
        Check.due("resource 4", -2, m.cost(2, 4, 1));
        Check.due("resource -1", -2, m.cost(2, -1, 1));
    }

    private static void greatCosts() {
        QuotaMeter m = new QuotaMeter();
        for (int j = 0; j < 5; j++) {
            m.tier(0, 0, j, j + 1, 1000000, 1000000000);
        }
        Check.due("all units and all fees", 10000005000000000L, m.cost(0, 0, MOST));
        m.mode(0, 0, 1, 1);
        Check.due("all units and one fee", 10000001000000000L, m.cost(0, 0, MOST));
        m.mode(0, 0, 2, 100000);
        Check.due("packages", 4 * 1000000L + 100000 * 1000000L + 5000000000L, m.cost(0, 0, MOST));
        m.tier(0, 1, 0, MOST, 1, 3);
        m.tier(0, 1, 1, 1, 1, 5);
        Check.due("the second tier is out of reach", MOST + 3, m.cost(0, 1, MOST));
    }
}
