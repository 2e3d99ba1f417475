/** Promises 13 (terms), 14 (credit), 15 (close), 20 (line), 21 (invoice), 22 (left) and 24 (closed). */
public final class InvoiceTest {
    private static final long MOST = 1000000000000L;

    public static void main(String[] args) {
        termArguments();
        creditArguments();
        closing();
        fullOfInvoices();
        usageLines();
        adjustmentLines();
        adjustmentsBelowZero();
        adjustmentsOfNothing();
        rounding();
        roundingBelowZero();
        minimum();
        order();
        creditOrder();
        creditsInTime();
        fullOfCredits();
        mostLines();
        greatMoney();
        wrongQuestions();
        readme();
        Check.end();
    }

    /** Account 0 of tenant 0, where a unit of each resource costs 1. */
    private static QuotaMeter simple() {
        QuotaMeter m = new QuotaMeter();
        m.account(0, -1);
        for (int resource = 0; resource < 4; resource++) {
            m.tier(0, resource, 0, 1, 1, 0);
        }
        return m;
    }

    private static void lineIs(QuotaMeter m, int invoice, int line, long... want) {
        for (int what = 0; what < 4; what++) {
            Check.due("line(" + invoice + ", " + line + ", " + what + ")", want[what], m.line(invoice, line, what));
        }
    }

    private static void invoiceIs(QuotaMeter m, int invoice, long... want) {
        for (int what = 0; what < 4; what++) {
            Check.due("invoice(" + invoice + ", " + what + ")", want[what], m.invoice(invoice, what));
        }
        Check.due("no line behind the last", -2, m.line(invoice, (int) want[2], 0));
    }

    private static void termArguments() {
        QuotaMeter m = simple();
        Check.due("all greatest", 0, m.terms(0, 10000, MOST, 10000));
        Check.due("tenant 6", -2, m.terms(6, 0, 0, 0));
        Check.due("tenant -1", -2, m.terms(-1, 0, 0, 0));
        Check.due("discount -1", -2, m.terms(0, -1, 0, 0));
        Check.due("discount 10001", -2, m.terms(0, 10001, 0, 0));
        Check.due("minimum -1", -2, m.terms(0, 0, -1, 0));
        Check.due("minimum 10^12 + 1", -2, m.terms(0, 0, MOST + 1, 0));
        Check.due("tax -1", -2, m.terms(0, 0, 0, -1));
        Check.due("tax 10001", -2, m.terms(0, 0, 0, 10001));
        m.event(1, 0, 0, 10, 0);
        m.tick(1000);
        m.close(0);
        lineIs(m, 0, 1, 2, -1, 0, -10);
        lineIs(m, 0, 2, 3, -1, 0, MOST);
        lineIs(m, 0, 3, 4, -1, 0, MOST);
        invoiceIs(m, 0, 0, 0, 4, 2 * MOST);
        m.close(1);
        Check.due("another tenant has its own terms", 2, m.count(4));
        m.tick(1000);
        m.close(1);
        invoiceIs(m, 1, 1, 0, 0, 0);
    }

    private static void creditArguments() {
        QuotaMeter m = simple();
        Check.due("tenant 6", -2, m.credit(6, 1, 0));
        Check.due("tenant -1", -2, m.credit(-1, 1, 0));
        Check.due("money 0", -2, m.credit(0, 0, 0));
        Check.due("money 10^12 + 1", -2, m.credit(0, MOST + 1, 0));
        Check.due("period -1", -2, m.credit(0, 1, -1));
        Check.due("period 100", -2, m.credit(0, 1, 100));
        Check.due("none came", -2, m.left(0, 0));
        Check.due("the least", 0, m.credit(0, 1, 0));
        Check.due("the greatest", 1, m.credit(0, MOST, 99));
        Check.due("another tenant's have numbers of their own", 0, m.credit(5, 7, 50));
        Check.due("left of the least", 1, m.left(0, 0));
        Check.due("left of the greatest", MOST, m.left(0, 1));
        Check.due("left of another's", 7, m.left(5, 0));
        Check.due("left: credit 2", -2, m.left(0, 2));
        Check.due("left: credit -1", -2, m.left(0, -1));
        Check.due("left: credit 40", -2, m.left(0, 40));
        Check.due("left: tenant 6", -2, m.left(6, 0));
        Check.due("left: tenant -1", -2, m.left(-1, 0));
        m.tick(2000);
        Check.due("a period that is over, but not closed", 2, m.credit(0, 3, 0));
        m.close(0);
        Check.due("one that is closed", -2, m.credit(0, 3, 0));
        Check.due("the next", 3, m.credit(0, 3, 1));
    }

    private static void closing() {
        QuotaMeter m = simple();
        Check.due("tenant 6", -2, m.close(6));
        Check.due("tenant -1", -2, m.close(-1));
        m.tick(999);
        Check.due("at its last minute", -4, m.close(0));
        m.tick(1);
        Check.due("behind it", 0, m.close(0));
        Check.due("one closed", 1, m.closed(0));
        Check.due("the next", -4, m.close(0));
        Check.due("another tenant", 1, m.close(3));
        m.tick(2000);
        Check.due("numbers go on in all", 2, m.close(3));
        Check.due("two closed", 2, m.closed(3));
        Check.due("period 1 of 0", 3, m.close(0));
        Check.due("period 2 of 0", 4, m.close(0));
        Check.due("three closed", 3, m.closed(0));
        Check.due("period 3 of 0", -4, m.close(0));
        Check.due("none of another", 0, m.closed(5));
        Check.due("closed: tenant 6", -2, m.closed(6));
        Check.due("closed: tenant -1", -2, m.closed(-1));
        invoiceIs(m, 2, 3, 1, 0, 0);
        invoiceIs(m, 4, 0, 2, 0, 0);
    }

    private static void fullOfInvoices() {
        QuotaMeter m = simple();
        m.event(1, 0, 0, 5, 0);
        m.credit(0, 2, 0);
        for (int i = 0; i < 7; i++) {
            m.tick(10000);
        }
        for (int i = 0; i < 60; i++) {
            Check.due("invoice " + i, i, m.close(1));
        }
        Check.due("one more", -3, m.close(1));
        Check.due("of another", -3, m.close(0));
        Check.due("BAD before FULL", -2, m.close(6));
        Check.due("60 closed", 60, m.closed(1));
        Check.due("none closed", 0, m.closed(0));
        Check.due("no credit was used", 2, m.left(0, 0));
        Check.due("60 invoices", 60, m.count(4));
        Check.due("no invoice 60", -2, m.invoice(60, 0));
        for (int i = 0; i < 10; i++) {
            m.close(1);
        }
        Check.due("still 60", 60, m.closed(1));
        QuotaMeter other = simple();
        other.tick(10000);
        for (int i = 0; i < 60; i++) {
            other.close(i / 10);
        }
        Check.due("EARLY before FULL", -4, other.close(0));
    }

    private static void usageLines() {
        QuotaMeter m = simple();
        m.account(0, 0);
        m.account(0, -1);
        m.account(1, -1);
        m.event(1, 1, 3, 5, 0);
        m.event(2, 2, 1, 6, 0);
        m.event(3, 0, 3, 7, 0);
        m.event(4, 2, 3, 8, 0);
        m.event(5, 3, 1, 1000, 0);
        m.tick(1000);
        m.event(6, 0, 0, 9, 1000);
        m.tier(0, 3, 0, 1, 2, 1);
        m.close(0);
        lineIs(m, 0, 0, 0, 1, 6, 6);
        lineIs(m, 0, 1, 0, 3, 20, 41);
        invoiceIs(m, 0, 0, 0, 2, 47);
        m.tick(1000);
        m.tier(0, 0, 0, 1, 0, 0);
        m.close(0);
        lineIs(m, 1, 0, 0, 0, 9, 0);
        invoiceIs(m, 1, 0, 1, 1, 0);
    }

    private static void adjustmentLines() {
        QuotaMeter m = simple();
        m.account(0, 0);
        m.tier(0, 1, 0, 10, 100, 0);
        m.tier(0, 1, 1, 20, 60, 30);
        m.mode(0, 2, 2, 10);
        m.event(1, 0, 1, 8, 0);
        m.tick(1000);
        m.close(0);
        m.tier(0, 1, 0, 1, 9999, 9999);
        m.tiers(0, 1, 1);
        m.mode(0, 1, 1, 1);
        m.mode(0, 2, 0, 3);
        Check.due("late, in the first tier", 1, m.event(2, 1, 1, 2, 990));
        Check.due("late, over its end", 1, m.event(3, 0, 1, 3, 990));
        Check.due("late, in packages", 1, m.event(4, 0, 2, 11, 990));
        Check.due("and one more package not begun", 1, m.event(5, 0, 2, 9, 990));
        m.event(6, 0, 3, 4, 1000);
        m.tick(1000);
        m.close(0);
        lineIs(m, 1, 0, 0, 3, 4, 4);
        lineIs(m, 1, 1, 1, 1, 5, 2 * 100 + 3 * 60 + 30);
        lineIs(m, 1, 2, 1, 2, 20, 2);
        invoiceIs(m, 1, 0, 1, 3, 4 + 410 + 2);
        m.tick(1000);
        m.close(0);
        invoiceIs(m, 2, 0, 2, 0, 0);
    }

    private static void adjustmentsBelowZero() {
        QuotaMeter m = simple();
        m.mode(0, 0, 1, 1);
        m.tier(0, 0, 0, 10, 100, 0);
        m.tier(0, 0, 1, 1, 10, 0);
        m.event(1, 0, 0, 10, 0);
        m.tick(1000);
        m.close(0);
        m.event(2, 0, 0, 1, 999);
        m.terms(0, 5000, 0, 1000);
        m.credit(0, 50, 9);
        m.tick(1000);
        m.close(0);
        lineIs(m, 1, 0, 1, 0, 1, -890);
        lineIs(m, 1, 1, 2, -1, 0, 445);
        lineIs(m, 1, 2, 3, -1, 0, 445);
        invoiceIs(m, 1, 0, 1, 3, 0);
        Check.due("no credit for a sum of 0", 50, m.left(0, 0));
    }

    private static void adjustmentsOfNothing() {
        QuotaMeter m = simple();
        m.tier(0, 0, 0, 1, 0, 77);
        m.event(1, 0, 0, 1, 0);
        m.tick(1000);
        m.close(0);
        m.event(2, 0, 0, 5, 999);
        m.event(3, 0, 1, 5, 999);
        m.tick(1000);
        m.close(0);
        lineIs(m, 1, 0, 1, 0, 5, 0);
        lineIs(m, 1, 1, 1, 1, 5, 5);
        invoiceIs(m, 1, 0, 1, 2, 5);
    }

    /** What an invoice of that usage, with a discount or a tax, has as that line's money; 0 if it has no such line. */
    private static long part(int units, int discount, int tax) {
        QuotaMeter m = simple();
        m.event(1, 0, 0, units, 0);
        m.terms(0, discount, 0, tax);
        m.tick(1000);
        m.close(0);
        Check.holds("its kind", m.line(0, 1, 0) == (discount > 0 ? 2 : 4) || m.invoice(0, 2) == 1);
        return m.invoice(0, 2) == 1 ? 0 : m.line(0, 1, 3);
    }

    private static void rounding() {
        Check.due("0.5", 0, part(1, 5000, 0));
        Check.due("1.5", -2, part(3, 5000, 0));
        Check.due("2.5", -2, part(5, 5000, 0));
        Check.due("3.5", -4, part(7, 5000, 0));
        Check.due("0.4999", 0, part(4999, 1, 0));
        Check.due("0.5 of 5000", 0, part(5000, 1, 0));
        Check.due("0.5001", -1, part(5001, 1, 0));
        Check.due("1.4999", -1, part(14999, 1, 0));
        Check.due("1.5 of 15000", -2, part(15000, 1, 0));
        Check.due("2.5 of 25000", -2, part(25000, 1, 0));
        Check.due("2.5001", -3, part(25001, 1, 0));
        Check.due("all", -123456, part(123456, 10000, 0));
        Check.due("tax 0.5", 0, part(1, 0, 5000));
        Check.due("tax 1.5", 2, part(3, 0, 5000));
        Check.due("tax 2.5", 2, part(5, 0, 5000));
        Check.due("tax 0.9999", 1, part(9999, 0, 1));
        Check.due("tax of all", 123456, part(123456, 0, 10000));
    }

    private static void roundingBelowZero() {
        long[] sums = {-1, -3, -5, -7, -9};
        long[] halves = {0, 2, 2, 4, 4};
        for (int i = 0; i < sums.length; i++) {
            QuotaMeter m = simple();
            m.mode(0, 0, 1, 1);
            m.tier(0, 0, 0, 1, 10, 0);
            m.tier(0, 0, 1, 1, 0, (int) (10 + sums[i]));
            m.event(1, 0, 0, 1, 0);
            m.tick(1000);
            m.close(0);
            m.event(2, 0, 0, 1, 999);
            m.terms(0, 5000, 0, 0);
            m.tick(1000);
            m.close(0);
            Check.due("the sum below 0", sums[i], m.line(1, 0, 3));
            Check.due("half of " + sums[i], halves[i] == 0 ? -sums[i] : halves[i], m.line(1, 1, 3));
            Check.due("kind for " + sums[i], halves[i] == 0 ? 3 : 2, m.line(1, 1, 0));
            Check.due("the minimum of 0 for " + sums[i], 0, m.invoice(1, 3));
        }
    }

    private static void minimum() {
        QuotaMeter m = simple();
        m.event(1, 0, 0, 100, 0);
        m.terms(0, 1000, 90, 0);
        m.tick(1000);
        m.close(0);
        lineIs(m, 0, 1, 2, -1, 0, -10);
        invoiceIs(m, 0, 0, 0, 2, 90);
        m.event(2, 0, 0, 99, 1000);
        m.tick(1000);
        m.close(0);
        lineIs(m, 1, 1, 2, -1, 0, -10);
        lineIs(m, 1, 2, 3, -1, 0, 1);
        invoiceIs(m, 1, 0, 1, 3, 90);
        m.tick(1000);
        m.close(0);
        lineIs(m, 2, 0, 3, -1, 0, 90);
        invoiceIs(m, 2, 0, 2, 1, 90);
    }

    private static void order() {
        QuotaMeter m = simple();
        m.event(1, 0, 2, 10, 0);
        m.tick(1000);
        m.close(0);
        m.event(2, 0, 2, 5, 999);
        m.event(3, 0, 3, 200, 1000);
        m.terms(0, 2000, 500, 1000);
        m.credit(0, 30, 1);
        m.tick(1000);
        m.close(0);
        lineIs(m, 1, 0, 0, 3, 200, 200);
        lineIs(m, 1, 1, 1, 2, 5, 5);
        lineIs(m, 1, 2, 2, -1, 0, -41);
        lineIs(m, 1, 3, 3, -1, 0, 500 - 164);
        lineIs(m, 1, 4, 4, -1, 0, 50);
        lineIs(m, 1, 5, 5, -1, 0, -30);
        invoiceIs(m, 1, 0, 1, 6, 520);
    }

    private static void creditOrder() {
        QuotaMeter m = simple();
        m.event(1, 0, 0, 100, 0);
        m.credit(0, 40, 5);
        m.credit(0, 10, 3);
        m.credit(0, 20, 5);
        m.credit(0, 30, 3);
        m.credit(0, 15, 4);
        m.tick(1000);
        m.close(0);
        lineIs(m, 0, 1, 5, -1, 0, -10);
        lineIs(m, 0, 2, 5, -1, 0, -30);
        lineIs(m, 0, 3, 5, -1, 0, -15);
        lineIs(m, 0, 4, 5, -1, 0, -40);
        lineIs(m, 0, 5, 5, -1, 0, -5);
        invoiceIs(m, 0, 0, 0, 6, 0);
        long[] left = {0, 0, 15, 0, 0};
        for (int i = 0; i < 5; i++) {
            Check.due("left of " + i, left[i], m.left(0, i));
        }
        m.event(2, 0, 0, 5, 1000);
        m.tick(1000);
        m.close(0);
        lineIs(m, 1, 1, 5, -1, 0, -5);
        invoiceIs(m, 1, 0, 1, 2, 0);
        Check.due("left for later", 10, m.left(0, 2));
    }

    private static void creditsInTime() {
        QuotaMeter m = simple();
        m.credit(0, 10, 0);
        m.credit(0, 20, 1);
        m.credit(1, 30, 0);
        m.tick(3000);
        Check.due("not closed yet", 10, m.left(0, 0));
        m.close(0);
        Check.due("closed", 0, m.left(0, 0));
        Check.due("good for one more", 20, m.left(0, 1));
        Check.due("another tenant's", 30, m.left(1, 0));
        m.terms(0, 0, 7, 0);
        m.close(0);
        lineIs(m, 1, 1, 5, -1, 0, -7);
        Check.due("used in its last period, and then nothing", 0, m.left(0, 1));
        m.close(0);
        invoiceIs(m, 2, 0, 2, 1, 7);
    }

    private static void fullOfCredits() {
        QuotaMeter m = simple();
        m.tick(5000);
        for (int i = 0; i < 40; i++) {
            Check.due("credit " + i, i, m.credit(0, 1, i / 10));
            if (i % 10 == 9) {
                Check.due("10 have something left", -3, m.credit(0, 1, 99));
                Check.due("BAD before FULL", -2, m.credit(0, 0, 99));
                m.close(0);
            }
        }
        Check.due("there were 40", -3, m.credit(0, 1, 99));
        Check.due("of another tenant there were none", 0, m.credit(1, 1, 99));
        QuotaMeter other = simple();
        for (int i = 0; i < 10; i++) {
            other.credit(0, 1, 9);
        }
        other.event(1, 0, 0, 1, 0);
        other.tick(1000);
        other.close(0);
        Check.due("one is used up", 10, other.credit(0, 1, 9));
        Check.due("and no more", -3, other.credit(0, 1, 9));
    }

    private static void mostLines() {
        QuotaMeter m = simple();
        m.tick(1000);
        m.close(0);
        for (int resource = 0; resource < 4; resource++) {
            m.event(resource, 0, resource, 10, 999);
            m.event(10 + resource, 0, resource, 10, 1000);
        }
        for (int i = 0; i < 10; i++) {
            m.credit(0, 1, 99 - i);
        }
        m.terms(0, 5000, 100, 1000);
        m.tick(1000);
        m.close(0);
        invoiceIs(m, 1, 0, 1, 21, 100);
        for (int line = 0; line < 21; line++) {
            long kind = line < 4 ? 0 : line < 8 ? 1 : line < 11 ? line - 6 : 5;
            Check.due("kind of line " + line, kind, m.line(1, line, 0));
        }
    }

    private static void greatMoney() {
        QuotaMeter m = simple();
        m.tier(0, 0, 0, 1, 1000000, 1000000000);
        for (int key = 0; key < 300; key++) {
            m.event(key, 0, 0, 1000000, 0);
        }
        m.terms(0, 3333, 0, 10000);
        m.tick(1000);
        m.close(0);
        lineIs(m, 0, 0, 0, 0, 300000000, 300001000000000L);
        lineIs(m, 0, 1, 2, -1, 0, -99990333300000L);
        lineIs(m, 0, 2, 4, -1, 0, 200010666700000L);
        invoiceIs(m, 0, 0, 0, 3, 400021333400000L);
    }

    private static void wrongQuestions() {
        QuotaMeter m = simple();
        m.event(1, 0, 0, 1, 0);
        m.tick(1000);
        m.close(0);
        Check.due("line: invoice 1", -2, m.line(1, 0, 0));
        Check.due("line: invoice -1", -2, m.line(-1, 0, 0));
        Check.due("line 1", -2, m.line(0, 1, 0));
        Check.due("line -1", -2, m.line(0, -1, 0));
        Check.due("line 21", -2, m.line(0, 21, 0));
        Check.due("line: what 4", -2, m.line(0, 0, 4));
        Check.due("line: what -1", -2, m.line(0, 0, -1));
        Check.due("invoice 1", -2, m.invoice(1, 0));
        Check.due("invoice -1", -2, m.invoice(-1, 0));
        Check.due("invoice: what 4", -2, m.invoice(0, 4));
        Check.due("invoice: what -1", -2, m.invoice(0, -1));
    }

    private static void readme() {
        QuotaMeter meter = new QuotaMeter();
        int team = meter.account(0, QuotaMeter.NONE);
        int user = meter.account(0, team);
        meter.tier(0, 0, 0, 10, 100, 0);
        meter.tier(0, 0, 1, 1, 60, 30);
        meter.limit(team, 0, 50);
        int hold = meter.request(user, 0, 20);
        Check.due("settled", 0, meter.settle(hold, 15, 4711L));
        meter.tick(1000);
        Check.due("to pay", 1330, meter.invoice(meter.close(0), 3));
    }
}
