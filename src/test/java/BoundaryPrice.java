/** The boundaries of promises 9 (mode), 10 (tier), 11 (tiers) and 12 (cost), sentence by sentence. */
final class BoundaryPrice {
    private static final int BAD = -2;
    private static final int LEAST = Integer.MIN_VALUE, MOST = Integer.MAX_VALUE;
    private static final long MOST_UNITS = 10000000000L;
    private static final int[] NO_TENANTS = {-1, 6, LEAST, MOST};
    private static final int[] NO_RESOURCES = {-1, 4, LEAST, MOST};

    /** Tiers of tenant 5, resource 3: units 1 .. 10, 11 .. 30 and those behind. */
    private static Edge withTiers(int promise, String sentence) {
        Edge e = new Edge(promise, sentence);
        e.given(m -> m.tier(5, 3, 0, 10, 100, 1000)).given(m -> m.tier(5, 3, 1, 30, 50, 2000));
        return e.given(m -> m.tier(5, 3, 2, 40, 20, 4000));
    }

    private static Edge costIs(Edge e, long n, long want) {
        return e.due("cost of " + n, want, m -> m.cost(5, 3, n));
    }

    static void promise9BadArguments() {
        Edge e = withTiers(9, "MODE, SIZE of PRICES; TIERS stay: 0. BAD: tenant, resource, MODE or SIZE.");
        e.due("mode 2, size 8", 0, m -> m.mode(5, 3, 2, 8));
        for (int tenant : NO_TENANTS) {
            e.refused("tenant " + tenant, BAD, m -> m.mode(tenant, 3, 0, 1));
        }
        for (int resource : NO_RESOURCES) {
            e.refused("resource " + resource, BAD, m -> m.mode(5, resource, 0, 1));
        }
        for (int mode : new int[] {-1, 3, LEAST, MOST}) {
            e.refused("mode " + mode, BAD, m -> m.mode(5, 3, mode, 1));
        }
        for (int mode = 0; mode < 3; mode++) {
            int own = mode;
            for (int size : new int[] {0, -1, 100001, LEAST, MOST}) {
                e.refused("mode " + mode + ", size " + size, BAD, m -> m.mode(5, 3, own, size));
            }
        }
        costIs(e, 41, 2 * 100 + 1000 + 3 * 50 + 2000 + 2 * 20 + 4000);
        e.due("the tiers stay", 3, m -> m.tiers(5, 3, 5));
        e.due("the first tenant and resource", 0, m -> m.mode(0, 0, 0, 1));
    }

    static void promise9Modes() {
        Edge e = withTiers(9, "MODE 0: each of the n UNITS for the PRICE of the TIER that has it");
        e.due("mode 1", 0, m -> m.mode(5, 3, 1, 1));
        costIs(e, 11, 11 * 50 + 2000);
        e.due("mode 2", 0, m -> m.mode(5, 3, 2, 1));
        costIs(e, 11, 10 * 100 + 50 + 3000);
        e.due("mode 2, size 10", 0, m -> m.mode(5, 3, 2, 10));
        costIs(e, 11, 100 + 50 + 3000);
        e.due("mode 0", 0, m -> m.mode(5, 3, 0, 10));
        costIs(e, 11, 10 * 100 + 50 + 3000);
        e.due("mode 1 does not look at SIZE", 0, m -> m.mode(5, 3, 1, 10));
        costIs(e, 11, 11 * 50 + 2000);
        e.due("the tiers stay", 3, m -> m.tiers(5, 3, 5));
    }

    static void promise9Sizes() {
        Edge e = withTiers(9, "2: as 0, but PRICES are for PACKAGES of SIZE units (1 .. 100000)");
        e.due("the greatest", 0, m -> m.mode(5, 3, 2, 100000));
        e.refused("one more", BAD, m -> m.mode(5, 3, 2, 100001));
        costIs(e, 100030, 100 + 50 + 20 + 7000);
        costIs(e, 100031, 100 + 50 + 40 + 7000);
        e.due("the least", 0, m -> m.mode(5, 3, 2, 1));
        e.refused("one less", BAD, m -> m.mode(5, 3, 2, 0));
        costIs(e, 31, 1000 + 1000 + 20 + 7000);
    }

    static void promise10BadArguments() {
        Edge e = withTiers(10, "0; BAD: tenant, resource, there is none such (5 at most)");
        for (int tenant : NO_TENANTS) {
            e.refused("tenant " + tenant, BAD, m -> m.tier(tenant, 3, 0, 1, 1, 1));
        }
        for (int resource : NO_RESOURCES) {
            e.refused("resource " + resource, BAD, m -> m.tier(5, resource, 0, 1, 1, 1));
        }
        for (int j : new int[] {-1, 4, 5, LEAST, MOST}) {
            e.refused("tier " + j + " of three", BAD, m -> m.tier(5, 3, j, 1000, 1, 1));
        }
        e.due("the first tenant and resource", 0, m -> m.tier(0, 0, 0, 1, 1, 1));
        e.due("the first tier", 0, m -> m.tier(5, 3, 0, 9, 1, 1));
        e.due("a fourth", 0, m -> m.tier(5, 3, 3, 50, 1, 1));
        e.refused("a sixth of four", BAD, m -> m.tier(5, 3, 5, 1000, 1, 1));
        e.due("a fifth", 0, m -> m.tier(5, 3, 4, 60, 1, 1));
        e.refused("a sixth", BAD, m -> m.tier(5, 3, 5, 1000, 1, 1));
        e.due("the fifth altered", 0, m -> m.tier(5, 3, 4, 61, 2, 2));
        e.due("five", 5, m -> m.tiers(5, 3, 5));
    }

    static void promise10AlteredOrOneMore() {
        Edge e = withTiers(10, "TIER j of PRICES, 0 .. how many there are: it is altered, or is one more.");
        e.due("the last altered", 0, m -> m.tier(5, 3, 2, 40, 7, 0));
        e.due("three still", 3, m -> m.tiers(5, 3, 5));
        costIs(e, 41, 10 * 100 + 20 * 50 + 11 * 7 + 3000);
        e.refused("one behind how many there are", BAD, m -> m.tier(5, 3, 4, 100, 1, 1));
        e.due("one more", 0, m -> m.tier(5, 3, 3, 100, 3, 5));
        e.due("four", 4, m -> m.tiers(5, 3, 5));
        costIs(e, 40, 10 * 100 + 20 * 50 + 10 * 7 + 3000);
        costIs(e, 41, 10 * 100 + 20 * 50 + 10 * 7 + 3 + 3005);
        e.due("the first altered", 0, m -> m.tier(5, 3, 0, 11, 100, 1000));
        costIs(e, 12, 11 * 100 + 50 + 3000);
        e.due("of another resource", 1, m -> m.tiers(5, 2, 5));
        e.due("of another tenant", 1, m -> m.tiers(4, 3, 5));
    }

    static void promise10Last() {
        Edge e = withTiers(10, "LAST is not 1 .. 10^10");
        for (long last : new long[] {0, -1, MOST_UNITS + 1, Long.MIN_VALUE, Long.MAX_VALUE}) {
            e.refused("last " + last + " of the last tier", BAD, m -> m.tier(5, 3, 2, last, 1, 1));
            e.refused("last " + last + " of one more", BAD, m -> m.tier(5, 3, 3, last, 1, 1));
            e.refused("last " + last + " of the first tier", BAD, m -> m.tier(5, 3, 0, last, 1, 1));
        }
        e.due("1 of the first", 0, m -> m.tier(5, 3, 0, 1, 100, 1000));
        costIs(e, 2, 100 + 50 + 3000);
        e.due("1 of the last", 0, m -> m.tier(5, 3, 2, 1, 20, 4000));
        e.due("10^10 of the second", 0, m -> m.tier(5, 3, 1, MOST_UNITS, 50, 2000));
        costIs(e, MOST_UNITS, 100 + (MOST_UNITS - 1) * 50 + 3000);
        e.due("10^10 of the last", 0, m -> m.tier(5, 3, 2, MOST_UNITS, 20, 4000));
    }

    static void promise10PriceAndFee() {
        Edge e = withTiers(10, "a PRICE (MONEY, 0 .. 1000000) and a FEE (0 .. 1000000000).");
        for (int price : new int[] {-1, 1000001, LEAST, MOST}) {
            e.refused("price " + price, BAD, m -> m.tier(5, 3, 0, 9, price, 1));
            e.refused("price " + price + " of the last", BAD, m -> m.tier(5, 3, 2, 31, price, 1));
            e.refused("price " + price + " of one more", BAD, m -> m.tier(5, 3, 3, 50, price, 1));
        }
        for (int fee : new int[] {-1, 1000000001, LEAST, MOST}) {
            e.refused("fee " + fee, BAD, m -> m.tier(5, 3, 0, 9, 1, fee));
            e.refused("fee " + fee + " of the last", BAD, m -> m.tier(5, 3, 2, 31, 1, fee));
            e.refused("fee " + fee + " of one more", BAD, m -> m.tier(5, 3, 3, 50, 1, fee));
        }
        e.due("the greatest", 0, m -> m.tier(5, 3, 0, 10, 1000000, 1000000000));
        costIs(e, 10, 1010000000);
        e.due("the least", 0, m -> m.tier(5, 3, 0, 10, 0, 0));
        costIs(e, 10, 0);
    }

    static void promise10LastsRise() {
        Edge e = withTiers(10, "PRICE, FEE, or LASTS would not rise (among all but the last TIER).");
        e.refused("the first like the second", BAD, m -> m.tier(5, 3, 0, 30, 1, 1));
        e.refused("the first above the second", BAD, m -> m.tier(5, 3, 0, 31, 1, 1));
        e.refused("the second like the first", BAD, m -> m.tier(5, 3, 1, 10, 1, 1));
        e.refused("the second below the first", BAD, m -> m.tier(5, 3, 1, 9, 1, 1));
        e.due("the first just below the second", 0, m -> m.tier(5, 3, 0, 29, 100, 1000));
        e.due("the first as before", 0, m -> m.tier(5, 3, 0, 10, 100, 1000));
        e.due("the second just above the first", 0, m -> m.tier(5, 3, 1, 11, 50, 2000));
        costIs(e, 12, 1000 + 50 + 20 + 7000);
        e.due("the second like the last one's, which is not looked at", 0, m -> m.tier(5, 3, 1, 40, 50, 2000));
        e.due("the second above the last one's", 0, m -> m.tier(5, 3, 1, 41, 50, 2000));
        e.due("the last like the second", 0, m -> m.tier(5, 3, 2, 41, 20, 4000));
        e.due("the last below the first", 0, m -> m.tier(5, 3, 2, 1, 20, 4000));
        costIs(e, 42, 1000 + 31 * 50 + 20 + 7000);
    }

    static void promise10OneMoreMakesTheLastCount() {
        Edge e = withTiers(10, "LASTS would not rise (among all but the last TIER)");
        e.given(m -> m.tier(5, 3, 2, 30, 20, 4000));
        e.refused("one more behind one like the second", BAD, m -> m.tier(5, 3, 3, 1000, 1, 1));
        e.given(m -> m.tier(5, 3, 2, 29, 20, 4000));
        e.refused("one more behind one below the second", BAD, m -> m.tier(5, 3, 3, 1000, 1, 1));
        e.due("three still", 3, m -> m.tiers(5, 3, 5));
        e.given(m -> m.tier(5, 3, 2, 31, 20, 4000));
        e.due("one more behind one that rises, its own not being looked at", 0, m -> m.tier(5, 3, 3, 1, 3, 0));
        costIs(e, 32, 1000 + 1000 + 20 + 3 + 7000);
        e.refused("a fifth behind one that does not rise", BAD, m -> m.tier(5, 3, 4, 1000, 1, 1));
        e.refused("the third like the second", BAD, m -> m.tier(5, 3, 2, 30, 1, 1));
        e.given(m -> m.tier(5, 3, 3, 32, 3, 0));
        e.due("a fifth behind one that rises", 0, m -> m.tier(5, 3, 4, 1, 1, 0));
        e.due("the fifth's is not looked at", 0, m -> m.tier(5, 3, 4, 32, 1, 0));
        e.refused("the fourth like the third", BAD, m -> m.tier(5, 3, 3, 31, 1, 1));
        e.refused("the third like the fourth", BAD, m -> m.tier(5, 3, 2, 32, 1, 1));
        costIs(e, 33, 1000 + 1000 + 20 + 3 + 1 + 7000);
    }

    static void promise11Many() {
        Edge e = withTiers(11, "Only the first so many TIERS stay (1 .. 5): how many there are. BAD.");
        for (int many : new int[] {0, -1, 6, LEAST, MOST}) {
            e.refused("many " + many, BAD, m -> m.tiers(5, 3, many));
        }
        for (int tenant : NO_TENANTS) {
            e.refused("tenant " + tenant, BAD, m -> m.tiers(tenant, 3, 1));
        }
        for (int resource : NO_RESOURCES) {
            e.refused("resource " + resource, BAD, m -> m.tiers(5, resource, 1));
        }
        e.due("5, of three", 3, m -> m.tiers(5, 3, 5));
        e.due("4, of three", 3, m -> m.tiers(5, 3, 4));
        e.due("3, of three", 3, m -> m.tiers(5, 3, 3));
        costIs(e, 41, 1000 + 1000 + 11 * 20 + 7000);
        e.due("2, of three", 2, m -> m.tiers(5, 3, 2));
        costIs(e, 41, 1000 + 31 * 50 + 3000);
        e.due("1, of two", 1, m -> m.tiers(5, 3, 1));
        costIs(e, 41, 4100 + 1000);
        e.due("1, of one", 1, m -> m.tiers(5, 3, 1));
        e.refused("the third is no more", BAD, m -> m.tier(5, 3, 2, 40, 1, 1));
        e.due("the second anew", 0, m -> m.tier(5, 3, 1, 1, 7, 0));
        costIs(e, 11, 1000 + 7 + 1000);
    }

    static void promise11Five() {
        Edge e = withTiers(11, "a MODE and 1 to 5 TIERS");
        e.given(m -> m.tier(5, 3, 3, 50, 10, 0)).given(m -> m.tier(5, 3, 4, 60, 1, 0));
        e.due("5, of five", 5, m -> m.tiers(5, 3, 5));
        e.refused("6, of five", BAD, m -> m.tiers(5, 3, 6));
        costIs(e, 51, 1000 + 1000 + 200 + 100 + 1 + 7000);
        e.due("4, of five", 4, m -> m.tiers(5, 3, 4));
        costIs(e, 51, 1000 + 1000 + 200 + 110 + 7000);
    }

    static void promise11TheLastGoesOn() {
        Edge e = withTiers(11, "(rising; the last TIER'S is not looked at: it goes on)");
        costIs(e, 40, 1000 + 1000 + 200 + 7000);
        costIs(e, 41, 1000 + 1000 + 220 + 7000);
        e.given(m -> m.tiers(5, 3, 2));
        costIs(e, 30, 1000 + 1000 + 3000);
        costIs(e, 31, 1000 + 1050 + 3000);
        e.due("the second below the first, being the last now", 0, m -> m.tier(5, 3, 1, 5, 50, 2000));
        e.refused("so there is none behind it", BAD, m -> m.tier(5, 3, 2, 40, 1, 1));
        costIs(e, 31, 1000 + 1050 + 3000);
    }

    static void promise12BadArguments() {
        Edge e = withTiers(12, "COST of n UNITS (0 .. 10^10) by PRICES as they are. BAD.");
        for (int tenant : NO_TENANTS) {
            e.refused("tenant " + tenant, BAD, m -> m.cost(tenant, 3, 1));
        }
        for (int resource : NO_RESOURCES) {
            e.refused("resource " + resource, BAD, m -> m.cost(5, resource, 1));
        }
        for (long n : new long[] {-1, MOST_UNITS + 1, Long.MIN_VALUE, Long.MAX_VALUE}) {
            e.refused(n + " units", BAD, m -> m.cost(5, 3, n));
        }
        costIs(e, 0, 0);
        costIs(e, MOST_UNITS, 1000 + 1000 + (MOST_UNITS - 30) * 20 + 7000);
        e.due("the first tenant and resource", 0, m -> m.cost(0, 0, 1));
    }

    static void promise12NothingForNothing() {
        for (int i = 0; i < 3; i++) {
            int mode = i;
            Edge e = withTiers(12, "COST of n UNITS (0 for 0)");
            e.given(m -> m.mode(5, 3, mode, 3));
            costIs(e, 0, 0);
            costIs(e, 1, 1100);
        }
    }

    /** Each unit around the end of a tier, by each mode: n, then what it costs. */
    static void promise12UnitsOfATier() {
        long[][][] want = {
            {{1, 1100}, {9, 1900}, {10, 2000}, {11, 4050}, {29, 4950}, {30, 5000}, {31, 9020}, {41, 9220}},
            {{1, 1100}, {9, 1900}, {10, 2000}, {11, 2550}, {29, 3450}, {30, 3500}, {31, 4620}, {41, 4820}},
            {{1, 1100}, {9, 1300}, {10, 1400}, {11, 3450}, {13, 3450}, {14, 3500}, {30, 3750}, {31, 7770}, {33, 7770}, {34, 7790}}
        };
        for (int i = 0; i < 3; i++) {
            int mode = i;
            Edge e = withTiers(12, "TIER j has the UNITS from one behind the LAST of the one before (from 1 on) to its own LAST;"
                + " n reaches it if one of the first n UNITS is among these.");
            e.given(m -> m.mode(5, 3, mode, 3));
            for (long[] pair : want[mode]) {
                e.due("mode " + mode + ", cost of " + pair[0], pair[1], m -> m.cost(5, 3, pair[0]));
            }
        }
    }

    static void promise12FeesOfAllReached() {
        Edge e = withTiers(12, "and the FEES of all TIERS that n reaches.");
        e.given(m -> m.tier(5, 3, 0, 10, 0, 1000)).given(m -> m.tier(5, 3, 1, 30, 0, 2000)).given(m -> m.tier(5, 3, 2, 1, 0, 4000));
        costIs(e, 10, 1000);
        costIs(e, 11, 3000);
        costIs(e, 30, 3000);
        costIs(e, 31, 7000);
    }

    static void promise12TheLastReached() {
        Edge e = withTiers(12, "1: all n for the PRICE of the last TIER that n reaches, and its FEE.");
        e.given(m -> m.mode(5, 3, 1, 1));
        costIs(e, 10, 10 * 100 + 1000);
        costIs(e, 11, 11 * 50 + 2000);
        costIs(e, 30, 30 * 50 + 2000);
        costIs(e, 31, 31 * 20 + 4000);
    }

    static void promise12PackagesBegun() {
        Edge e = new Edge(12, "of each TIER'S units, as many PACKAGES as are begun.");
        e.given(m -> m.tier(5, 3, 0, 10, 1, 0)).given(m -> m.tier(5, 3, 1, 1, 100, 0)).given(m -> m.mode(5, 3, 2, 5));
        costIs(e, 1, 1);
        costIs(e, 5, 1);
        costIs(e, 6, 2);
        costIs(e, 10, 2);
        costIs(e, 11, 102);
        costIs(e, 15, 102);
        costIs(e, 16, 202);
        e.given(m -> m.mode(5, 3, 2, 7));
        costIs(e, 7, 1);
        costIs(e, 8, 2);
        costIs(e, 10, 2);
        costIs(e, 11, 102);
        costIs(e, 17, 102);
        costIs(e, 18, 202);
    }

    static void promise12GreatestCosts() {
        Edge e = new Edge(12, "COST of n UNITS (0 .. 10^10) by PRICES as they are.");
        for (int i = 0; i < 5; i++) {
            int j = i;
            e.given(m -> m.tier(5, 3, j, j + 1, 1000000, 1000000000));
        }
        costIs(e, MOST_UNITS, 10000000000000000L + 5000000000L);
        e.given(m -> m.mode(5, 3, 1, 1));
        costIs(e, MOST_UNITS, 10000000000000000L + 1000000000L);
        e.given(m -> m.mode(5, 3, 2, 1));
        costIs(e, MOST_UNITS, 10000000000000000L + 5000000000L);
        e.given(m -> m.mode(5, 3, 2, 100000));
        costIs(e, MOST_UNITS, 4000000L + 100000000000L + 5000000000L);
        costIs(e, 100004, 4000000L + 1000000L + 5000000000L);
        costIs(e, 100005, 4000000L + 2000000L + 5000000000L);
        refusedOnes(e);
    }

    private static void refusedOnes(Edge e) {
        e.refused("one unit more", BAD, m -> m.cost(5, 3, MOST_UNITS + 1));
        e.refused("one tier more", BAD, m -> m.tier(5, 3, 5, MOST_UNITS, 1, 1));
    }
}
