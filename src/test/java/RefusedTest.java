import java.util.NoSuchElementException;
import java.util.function.Function;
import java.util.function.Supplier;

/**
 * Each call that is refused, in the states of a court that refuse it: it throws what the document names,
 * or answers NONE or false, and changes nothing. A call is made on one of two courts with the same calls
 * before; then all that can be looked at, brought back and restored must be the same on both.
 */
public final class RefusedTest {
    private static final int LEAST = Integer.MIN_VALUE, MOST = Integer.MAX_VALUE;
    private static final String IOB = "IndexOutOfBoundsException", IAE = "IllegalArgumentException",
        ISE = "IllegalStateException", NSE = "NoSuchElementException";

    private static Supplier<MemoryCourt> state;
    private static String due;

    public static void main(String[] args) throws Exception {
        Check.tests(RefusedTest.class);
    }

    // ---- the two courts

    private static void in(Supplier<MemoryCourt> made) {
        state = made;
        due = seen(made.get());
    }

    private static void refused(String answer, Function<MemoryCourt, Object> call) {
        MemoryCourt x = state.get();
        Check.equal(answer(x, call), answer);
        Check.equal(seen(x), due);
    }

    private static String answer(MemoryCourt x, Function<MemoryCourt, Object> call) {
        try {
            return "" + call.apply(x);
        } catch (IndexOutOfBoundsException | IllegalArgumentException | IllegalStateException | NoSuchElementException e) {
            return e.getClass().getSimpleName();
        }
    }

    /** All of a court: what it shows, then the courts before its changes, the saved one and the buffer. */
    private static String seen(MemoryCourt x) {
        StringBuilder b = new StringBuilder(shown(x));
        b.append('|').append(x.errorCode()).append(' ').append(x.errorOffset()).append(' ').append(Check.output(x));
        b.append('|').append(buffer(x));
        for (int left = x.count(20); left > 0; left--) {
            b.append("|undo ").append(x.undo()).append(' ').append(brief(x));
        }
        b.append("|undo ").append(answer(x, MemoryCourt::undo));
        b.append("|restored ").append(answer(x, MemoryCourt::restoreState)).append(' ').append(brief(x));
        return b.toString();
    }

    private static String shown(MemoryCourt x) {
        StringBuilder b = new StringBuilder(Check.counts(x));
        for (int i = 0; i < x.count(0); i++) {
            b.append(' ').append(x.page(i));
        }
        for (int i = 0; i < x.count(1); i++) {
            b.append('|').append(Check.processOf(x, i)).append(' ');
            for (int time = Math.max(0, x.count(2) - 9); time <= x.count(2) + 1; time++) {
                b.append(x.wasStalled(i, time) ? 1 : 0);
            }
        }
        for (int i = 0; i < Math.min(4, x.count(10)); i++) {
            b.append('|').append(Check.loanOf(x, i));
        }
        for (int i = 0; i < x.count(13); i += i < 4 ? 1 : 14) {
            b.append('|').append(Check.claimOf(x, i));
        }
        for (int i = Math.max(0, x.count(18) - 3); i < x.count(18); i++) {
            b.append('|').append(Check.fineOf(x, i)).append(' ').append(x.evidence(i)).append(' ').append(x.wouldAppeal(i));
        }
        b.append('|').append(x.longestFree()).append(' ').append(x.nextHearing()).append(' ').append(x.shortage());
        b.append(' ').append(x.overdue()).append(' ').append(x.firstBroken()).append(' ').append(x.worst());
        b.append(' ').append(x.meanLate()).append(' ').append(x.metShare()).append(' ').append(x.freeIn(9));
        b.append(' ').append(x.bestOrder(20)).append(' ').append(answer(x, y -> y.waiting(0)));
        return b.toString();
    }

    private static String brief(MemoryCourt x) {
        StringBuilder b = new StringBuilder();
        for (int what : new int[] {2, 3, 10, 14, 18, 19}) {
            b.append(x.count(what)).append(' ');
        }
        for (int what = 0; what < 3; what++) {
            int each = what;
            b.append(answer(x, y -> y.process(0, each))).append(' ');
        }
        return b.append(x.longestFree()).append(' ').append(answer(x, y -> y.page(3))).toString();
    }

    /** Tells the buffer that holds "q" and the full one of these states from all others. */
    private static String buffer(MemoryCourt x) {
        if (x.truncate(600)) {
            return "600 " + x.truncate(599) + x.truncate(600) + x.truncate(1) + x.find();
        }
        return "" + x.truncate(2) + x.find() + x.truncate(1);
    }

    // ---- states

    private static MemoryCourt busy() {
        MemoryCourt x = Check.court("pages 9;process p;process q;every 3;base 50;fade 7;appeal 4;patience 2;"
            + "loan p 2 1;loan q 3 50;loan p 1 2;ask q 2 9;ask q 9 9;ask p 1 1;");
        Check.input(x, "pages 3;");
        x.parse();
        x.stall(0, 2);
        x.run(3);
        x.saveState();
        x.appeal(0);
        x.setOrder(1);
        x.withdraw(2);
        x.printProcess(0);
        Check.input(x, "q");
        return x;
    }

    /** At the time 2000, behind the last hearing. */
    private static MemoryCourt late() {
        MemoryCourt x = Check.court("pages 9;process p;every 37;appeal 1;base 1;loan p 1 9;loan p 2 90;");
        Check.pass(x, 1990);
        x.saveState();
        x.ask(0, 9, 9);
        Check.pass(x, 10);
        x.printProcess(0);
        return x;
    }

    /** With sixty claims: one was met, one refused, one withdrawn. */
    private static MemoryCourt asked() {
        StringBuilder text = new StringBuilder("pages 9;process p;every 2;patience 1;ask p9 9;ask p1 1;");
        MemoryCourt x = Check.court(text.toString());
        x.run(2);
        for (int i = 2; i < 60; i++) {
            x.ask(0, 1, 1);
        }
        x.withdraw(2);
        x.saveState();
        return x;
    }

    /** With 41 fines, of which the first is not known any more. */
    private static MemoryCourt fined() {
        MemoryCourt x = Check.court("pages 4;process p;every 1;appeal 99;fade 99;loan p 1 1;loan p 1 50;");
        Check.pass(x, 41);
        x.saveState();
        x.stall(0, 5);
        x.run(1);
        return x;
    }

    /** With loans that cannot be renewed: closed, broken, of a process with a record, beside a claim. */
    private static MemoryCourt kept() {
        MemoryCourt x = Check.court("pages 9;process p;process q;process r;every 2;fade 99;"
            + "loan p 1 99;loan p 1 1;loan q 1 99;loan r 1 99;loan r 1 2;loan r 1 3;");
        x.run(3);
        x.giveBack(1, 1);
        x.giveBack(5, 1);
        x.ask(1, 1, 1);
        return x;
    }

    private static MemoryCourt full() {
        MemoryCourt x = busy();
        Check.input(x, "q" + " ".repeat(599));
        return x;
    }

    // ---- refused calls

    private static void statesAreAsMeant() {
        MemoryCourt x = busy();
        Check.equal(Check.counts(x), "9 2 3 1 3 50 7 2 4 1 4 4 2 3 1 1 0 1 2 0 5");
        Check.all("1 0 3 1 q", x.fine(0, 6), x.fine(1, 6), x.claim(2, 3), x.claim(0, 3), x.find() == 1 ? "q" : "");
        Check.all("2000 -1 1998 0", late().count(2), late().nextHearing(), late().fine(late().count(18) - 1, 4), late().claim(0, 3));
        Check.all("60 1 2 3", asked().count(13), asked().claim(0, 3), asked().claim(1, 3), asked().claim(2, 3));
        Check.all("41 1 5", fined().count(18), fined().count(20) - 2, fined().fine(40, 4) - 37);
        Check.all("0 1 1 1", kept().loan(1, 1), kept().process(0, 0), kept().loan(4, 5), kept().count(14));
        // Two courts with one call between them do not look the same.
        String busy = seen(busy());
        x = busy();
        x.setOrder(1);
        Check.equal(seen(x).equals(busy), false);
        x = busy();
        x.saveState();
        Check.equal(seen(x).equals(busy), false);
        x = busy();
        x.printProcess(1);
        Check.equal(seen(x).equals(busy), false);
        x = busy();
        x.truncate(0);
        Check.equal(seen(x).equals(busy), false);
        x = busy();
        x.restoreState();
        Check.equal(seen(x).equals(busy), false);
    }

    // Promises 2 and 3: NONE, with no change; false, with no change
    private static void buffer() {
        in(RefusedTest::full);
        refused("-1", x -> x.feed(0x71616161, 0x61616161, 0x61616161, 0x61616161, 0x61616161));
        refused("-1", x -> x.feed(0, 0, 0, 0, 0));
        refused("false", x -> x.truncate(601));
        refused("false", x -> x.truncate(-1));
        in(RefusedTest::busy);
        for (int length : new int[] {-1, 2, 600, LEAST, MOST}) {
            refused("false", x -> x.truncate(length));
        }
    }

    // Promises 7 to 16 and 46: NONE, IndexOutOfBoundsException, NoSuchElementException
    private static void views() {
        in(RefusedTest::busy);
        for (int wrong : new int[] {-1, 21, LEAST, MOST}) {
            refused("-1", x -> x.count(wrong));
            refused("-1", x -> x.outputByte(wrong < 0 ? wrong : wrong + 9));
        }
        for (int wrong : new int[] {-1, 2, LEAST, MOST}) {
            refused(IOB, x -> x.process(wrong, 0));
            refused(IOB, x -> x.wasStalled(wrong, 1));
            refused(IOB, x -> x.printProcess(wrong));
        }
        for (int wrong : new int[] {-1, 4, LEAST, MOST}) {
            refused(IOB, x -> x.loan(wrong, 0));
            refused(IOB, x -> x.pageOf(wrong, 0));
            refused(IOB, x -> x.pageOf(wrong, -1));
            refused(IOB, x -> x.pieces(wrong));
        }
        for (int wrong : new int[] {-1, 3, LEAST, MOST}) {
            refused(IOB, x -> x.claim(wrong, 0));
            refused(NSE, x -> x.pageOf(0, wrong));
            refused(NSE, x -> x.waiting(wrong));
        }
        refused(NSE, x -> x.pageOf(0, 2));
        refused(NSE, x -> x.waiting(1));
        for (int wrong : new int[] {-1, 10, LEAST, MOST}) {
            refused(IOB, x -> x.process(0, wrong));
            refused(IOB, x -> x.loan(0, wrong));
            refused(IOB, x -> x.claim(0, wrong));
            refused(IOB, x -> x.page(wrong));
        }
        refused(IOB, x -> x.loan(0, 8));
        refused(IOB, x -> x.claim(0, 7));
        refused(IOB, x -> x.page(9));
    }

    // Promises 17, 18, 33 and 44
    private static void fines() {
        in(RefusedTest::busy);
        for (int wrong : new int[] {-1, 2, LEAST, MOST}) {
            refused(NSE, x -> x.fine(wrong, 0));
            refused(NSE, x -> x.fine(wrong, 7));
            refused(IAE, x -> x.fine(wrong, 8));
            refused(IAE, x -> x.fine(wrong, -1));
            refused(NSE, x -> x.evidence(wrong));
            refused(NSE, x -> x.appeal(wrong));
            refused(NSE, x -> x.wouldAppeal(wrong));
        }
        for (int wrong : new int[] {-1, 8, LEAST, MOST}) {
            refused(IAE, x -> x.fine(0, wrong));
        }
        // Appealed already.
        refused(ISE, x -> x.appeal(0));
        refused("-1", x -> x.wouldAppeal(0));
        // Not known any more, although it is not too late.
        in(RefusedTest::fined);
        refused(NSE, x -> x.fine(0, 0));
        refused(IAE, x -> x.fine(0, 8));
        refused(NSE, x -> x.evidence(0));
        refused(NSE, x -> x.appeal(0));
        refused(NSE, x -> x.wouldAppeal(0));
        refused(NSE, x -> x.appeal(41));
        // Too late.
        in(RefusedTest::late);
        refused(ISE, x -> x.appeal(x.count(18) - 1));
        refused("-1", x -> x.wouldAppeal(x.count(18) - 1));
        refused(NSE, x -> x.appeal(x.count(18)));
    }

    // Promise 27
    private static void run() {
        in(RefusedTest::busy);
        for (int wrong : new int[] {0, -1, 501, LEAST, MOST}) {
            refused(IAE, x -> x.run(wrong));
        }
        in(RefusedTest::late);
        refused(ISE, x -> x.run(1));
        refused(ISE, x -> x.run(500));
        for (int wrong : new int[] {0, -1, 501, LEAST, MOST}) {
            refused(IAE, x -> x.run(wrong));
        }
    }

    // Promise 28
    private static void ask() {
        in(RefusedTest::busy);
        for (int wrong : new int[] {-1, 2, LEAST, MOST}) {
            refused(IOB, x -> x.ask(wrong, 1, 1));
            refused(IOB, x -> x.ask(wrong, 0, 1));
            refused(IOB, x -> x.ask(wrong, 1, 100));
        }
        for (int wrong : new int[] {0, -1, 100, LEAST, MOST}) {
            refused(IAE, x -> x.ask(0, wrong, 1));
            refused(IAE, x -> x.ask(0, 1, wrong));
        }
        refused(IAE, x -> x.ask(0, 10, 1));
        in(RefusedTest::asked);
        refused(ISE, x -> x.ask(0, 1, 1));
        refused(ISE, x -> x.ask(0, 9, 99));
        refused(IAE, x -> x.ask(0, 10, 1));
        refused(IAE, x -> x.ask(0, 1, 0));
        refused(IOB, x -> x.ask(1, 1, 1));
        refused(IOB, x -> x.ask(1, 0, 0));
    }

    // Promises 29 and 30
    private static void withdrawAndGiveBack() {
        in(RefusedTest::busy);
        for (int wrong : new int[] {-1, 3, LEAST, MOST}) {
            refused(IOB, x -> x.withdraw(wrong));
        }
        refused(ISE, x -> x.withdraw(0));
        refused(ISE, x -> x.withdraw(2));
        for (int wrong : new int[] {-1, 4, LEAST, MOST}) {
            refused(IOB, x -> x.giveBack(wrong, 1));
            refused(IOB, x -> x.giveBack(wrong, 0));
        }
        for (int wrong : new int[] {0, -1, 3, LEAST, MOST}) {
            refused(IAE, x -> x.giveBack(0, wrong));
        }
        in(RefusedTest::asked);
        refused(ISE, x -> x.withdraw(0));
        refused(ISE, x -> x.withdraw(1));
        refused(ISE, x -> x.withdraw(2));
        refused(IOB, x -> x.withdraw(60));
        in(RefusedTest::kept);
        refused(IAE, x -> x.giveBack(1, 1));
        refused(IAE, x -> x.giveBack(1, 0));
    }

    // Promise 31
    private static void renew() {
        in(RefusedTest::kept);
        for (int wrong : new int[] {-1, 6, LEAST, MOST}) {
            refused(IOB, x -> x.renew(wrong, 1));
            refused(IOB, x -> x.renew(wrong, 0));
        }
        for (int loan = 0; loan < 6; loan++) {
            int each = loan;
            refused(IAE, x -> x.renew(each, 0));
            refused(IAE, x -> x.renew(each, 100));
        }
        // The record of p; a closed loan; the claim of q beside the loan of r; a broken loan; a closed one.
        refused(ISE, x -> x.renew(0, 1));
        refused(ISE, x -> x.renew(1, 1));
        refused(ISE, x -> x.renew(3, 99));
        refused(ISE, x -> x.renew(4, 1));
        refused(ISE, x -> x.renew(5, 1));
        Check.equal(kept().renew(2, 1), 100);
        // Each ground alone: without the claim the loans of r are closed, broken or can be renewed.
        in(() -> {
            MemoryCourt x = kept();
            x.undo();
            return x;
        });
        refused(ISE, x -> x.renew(0, 1));
        refused(ISE, x -> x.renew(4, 1));
        refused(ISE, x -> x.renew(5, 1));
        MemoryCourt y = kept();
        y.undo();
        Check.equal(y.renew(3, 1), 100);
    }

    // Promises 32 and 34
    private static void stallAndSetOrder() {
        in(RefusedTest::busy);
        for (int wrong : new int[] {-1, 2, LEAST, MOST}) {
            refused(IOB, x -> x.stall(wrong, 0));
            refused(IOB, x -> x.stall(wrong, 100));
        }
        for (int wrong : new int[] {-1, 100, LEAST, MOST}) {
            refused(IAE, x -> x.stall(0, wrong));
            refused(IAE, x -> x.setOrder(wrong));
        }
        refused(IAE, x -> x.setOrder(3));
    }

    // Promises 36 to 43
    private static void forecasts() {
        in(RefusedTest::busy);
        for (int wrong : new int[] {0, -1, 501, LEAST, MOST}) {
            refused(IAE, x -> x.metIn(0, wrong));
            refused(IAE, x -> x.refusedIn(0, wrong));
            refused(IAE, x -> x.freeIn(wrong));
            refused(IAE, x -> x.processIn(0, wrong, 0));
            refused(IAE, x -> x.bestOrder(wrong));
            refused(IOB, x -> x.metIn(3, wrong));
            refused(IOB, x -> x.refusedIn(3, wrong));
            refused(IOB, x -> x.processIn(2, wrong, 0));
        }
        for (int wrong : new int[] {-1, 4, LEAST, MOST}) {
            refused(IOB, x -> x.metIn(wrong, 1));
            refused(IOB, x -> x.refusedIn(wrong, 1));
            refused(IOB, x -> x.wouldFine(wrong));
            refused(IOB, x -> x.wouldPay(wrong));
            refused(IOB, x -> x.processIn(wrong, 1, 0));
            refused(IOB, x -> x.processIn(wrong, 0, 3));
            refused(IAE, x -> x.processIn(0, 1, wrong));
            refused(IOB, x -> x.helps(wrong, 0));
            refused(IOB, x -> x.helps(0, wrong));
            refused(IOB, x -> x.helps(wrong, wrong));
        }
        refused(IOB, x -> x.wouldPay(2));
        refused(IAE, x -> x.processIn(0, 1, 3));
        refused(IOB, x -> x.helps(0, 3));
        // What does not wait is no error: NONE.
        refused("-1", x -> x.metIn(0, 500));
        refused("-1", x -> x.refusedIn(2, 500));
        refused("-1", x -> x.helps(1, 0));
        refused("-1", x -> x.helps(1, 2));
    }

    // Promises 35 and 48, and a new object, which has nothing
    private static void nothingThere() {
        in(MemoryCourt::new);
        refused(ISE, MemoryCourt::undo);
        refused(ISE, MemoryCourt::restoreState);
        refused("false", x -> x.truncate(1));
        refused("-1", x -> x.outputByte(0));
        refused(IOB, x -> x.process(0, 0));
        refused(IOB, x -> x.loan(0, 0));
        refused(IOB, x -> x.page(4));
        refused(IOB, x -> x.pageOf(0, 0));
        refused(IOB, x -> x.pieces(0));
        refused(IOB, x -> x.claim(0, 0));
        refused(NSE, x -> x.waiting(0));
        refused(NSE, x -> x.fine(0, 0));
        refused(IAE, x -> x.fine(0, 8));
        refused(NSE, x -> x.evidence(0));
        refused(IOB, x -> x.wasStalled(0, 0));
        refused(IOB, x -> x.ask(0, 1, 1));
        refused(IOB, x -> x.withdraw(0));
        refused(IOB, x -> x.giveBack(0, 1));
        refused(IOB, x -> x.renew(0, 1));
        refused(IOB, x -> x.stall(0, 0));
        refused(NSE, x -> x.appeal(0));
        refused(IOB, x -> x.metIn(0, 1));
        refused(IOB, x -> x.refusedIn(0, 1));
        refused(IOB, x -> x.wouldFine(0));
        refused(IOB, x -> x.wouldPay(0));
        refused(IOB, x -> x.processIn(0, 1, 0));
        refused(IOB, x -> x.helps(0, 0));
        refused(NSE, x -> x.wouldAppeal(0));
        refused(IOB, x -> x.printProcess(0));
        // All changes undone, and the state restored.
        in(() -> {
            MemoryCourt x = busy();
            x.restoreState();
            return x;
        });
        refused(ISE, MemoryCourt::undo);
    }
}
