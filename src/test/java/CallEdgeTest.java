/**
 * The edges of section 7 and of the promises 27 to 35, the changes: a test for each sentence that names
 * one, on both of its sides. Its sentence stands over a test. What a refused call leaves as it is, is
 * looked at in RefusedTest.
 */
public final class CallEdgeTest {
    private static final int LEAST = Integer.MIN_VALUE, MOST = Integer.MAX_VALUE;

    public static void main(String[] args) throws Exception {
        Check.tests(CallEdgeTest.class);
    }

    private static MemoryCourt behind(int ticks, String text) {
        MemoryCourt x = Check.court(text);
        Check.pass(x, ticks);
        return x;
    }

    // ---- promise 27

    // ticks: 1 to 500.  Throws IllegalArgumentException if ticks is out of range
    private static void run1To500() {
        MemoryCourt x = Check.court("pages 9;");
        Check.all("0 1 0 501", x.run(1), x.count(2), x.run(500), x.count(2));
        for (int ticks : new int[] {0, -1, 501, LEAST, MOST}) {
            Check.noArgument(() -> x.run(ticks));
        }
        Check.all("501 2", x.count(2), x.count(20));
    }

    // Throws IllegalStateException if the time would be greater than 2000
    private static void runUpTo2000() {
        for (int left : new int[] {1, 2, 499, 500}) {
            MemoryCourt x = behind(2000 - left, "pages 9;");
            if (left < 500) {
                Check.noState(() -> x.run(left + 1));
                Check.noState(() -> x.run(500));
            }
            Check.all(2000 - left + " 0 2000", x.count(2), x.run(left), x.count(2));
            Check.noState(() -> x.run(1));
            Check.noArgument(() -> x.run(0));
            Check.noArgument(() -> x.run(501));
            Check.noArgument(() -> x.run(MOST));
        }
    }

    // Returns the number of claims that are met in them.
    private static void runCountsClaimsOfItsTicks() {
        MemoryCourt x = Check.court("pages 9;process p;every 2;patience 1;ask p 3 9;ask p 3 9;ask p 3 9;ask p 3 9;");
        Check.all("0 3 0 3", x.run(1), x.run(1), x.run(500), x.count(15));
        // Of several hearings together: the second claim waits until the loan is broken.
        MemoryCourt y = Check.court("pages 4;process p;process q;every 2;patience 9;ask p 4 1;ask q 4 1;");
        Check.equal(y.run(4), 2);
    }

    // ---- promise 28

    // Throws IndexOutOfBoundsException if there is no such process
    private static void askOfAProcess() {
        MemoryCourt x = Check.court("pages 9;process a;process b;process c;process d;process e;process f;process g;process h;");
        Check.all("0 1", x.ask(0, 1, 1), x.ask(7, 1, 1));
        for (int process : new int[] {-1, 8, LEAST, MOST}) {
            Check.noIndex(() -> x.ask(process, 1, 1));
            Check.noIndex(() -> x.ask(process, 0, 100));
        }
        Check.noIndex(() -> new MemoryCourt().ask(0, 1, 1));
    }

    // pages: 1 to all pages; term: 1 to 99.  Throws IllegalArgumentException if pages or term is out of range
    private static void askFor1ToAllPages() {
        for (int pages : new int[] {4, 9, 64}) {
            MemoryCourt x = Check.court("pages " + pages + ";process p;loan p " + pages + " 9;");
            Check.all("0 1", x.ask(0, 1, 1), x.ask(0, pages, 99));
            for (int wrong : new int[] {0, -1, pages + 1, LEAST, MOST}) {
                Check.noArgument(() -> x.ask(0, wrong, 1));
            }
            for (int wrong : new int[] {0, -1, 100, LEAST, MOST}) {
                Check.noArgument(() -> x.ask(0, 1, wrong));
            }
            Check.all("2 1 1 99", x.count(13), x.claim(0, 2), x.claim(0, 1), x.claim(1, 2));
        }
    }

    // Throws IllegalStateException if there are 60 claims
    private static void askFor60Claims() {
        MemoryCourt x = Check.court("pages 9;process p;every 50;");
        for (int i = 0; i < 60; i++) {
            Check.equal(x.ask(0, 1, 1), i);
        }
        Check.noState(() -> x.ask(0, 1, 1));
        Check.noArgument(() -> x.ask(0, 10, 1));
        Check.noArgument(() -> x.ask(0, 1, 0));
        Check.noIndex(() -> x.ask(1, 1, 1));
        // Those that do not wait any more count as well.
        x.withdraw(59);
        x.withdraw(0);
        Check.noState(() -> x.ask(0, 1, 1));
        x.run(50);
        Check.noState(() -> x.ask(0, 1, 1));
        x.undo();
        x.undo();
        x.undo();
        x.undo();
        Check.all("59 59", x.count(13), x.ask(0, 1, 1));
        Check.noState(() -> x.ask(0, 1, 1));
    }

    // ---- promise 29

    // Throws IndexOutOfBoundsException if there is no such claim
    private static void withdrawAClaim() {
        MemoryCourt x = Check.court("pages 9;process p;ask p 1 1;ask p 1 1;");
        for (int claim : new int[] {-1, 2, LEAST, MOST}) {
            Check.noIndex(() -> x.withdraw(claim));
        }
        Check.all("0 0", x.withdraw(1), x.withdraw(0));
        Check.noIndex(() -> new MemoryCourt().withdraw(0));
    }

    // Throws IllegalStateException if it does not wait.  Returns how often it was put off.
    private static void withdrawOneThatWaits() {
        MemoryCourt x = Check.court("pages 9;process p;process q;every 1;patience 3;loan p 8 99;ask q 1 1;ask q 2 1;ask q 3 1;");
        Check.all("1", x.run(1));
        Check.noState(() -> x.withdraw(0));
        Check.equal(x.withdraw(1), 1);
        Check.noState(() -> x.withdraw(1));
        // At the last hearing of its patience it is refused and does not wait any more.
        x.run(1);
        Check.all("2 3", x.withdraw(2), x.claim(2, 3));
        x.undo();
        x.run(1);
        Check.equal(x.claim(2, 3), 2);
        Check.noState(() -> x.withdraw(2));
        Check.equal(x.withdraw(x.ask(0, 9, 9)), 0);
    }

    // ---- promise 30

    // pages: 1 to the pages that it has.  Throws IllegalArgumentException if pages is out of range
    private static void giveBack1ToItsPages() {
        MemoryCourt x = Check.court("pages 9;process p;loan p 4 9;loan p 5 9;");
        for (int pages : new int[] {0, -1, 5, LEAST, MOST}) {
            Check.noArgument(() -> x.giveBack(0, pages));
        }
        Check.all("3 2 0", x.giveBack(0, 1), x.giveBack(0, 1), x.giveBack(0, 2));
        for (int pages : new int[] {0, 1, -1}) {
            Check.noArgument(() -> x.giveBack(0, pages));
        }
        Check.all("0 9", x.giveBack(1, 5), x.count(9));
    }

    // Throws IndexOutOfBoundsException if there is no such loan
    private static void giveBackOfALoan() {
        MemoryCourt x = Check.court("pages 9;process p;loan p 4 9;loan p 5 9;");
        for (int loan : new int[] {-1, 2, LEAST, MOST}) {
            Check.noIndex(() -> x.giveBack(loan, 1));
            Check.noIndex(() -> x.giveBack(loan, 0));
        }
        Check.noIndex(() -> new MemoryCourt().giveBack(0, 1));
    }

    // Gives pages of a loan back: those with the greatest numbers first.
    private static void giveBackTheGreatestPages() {
        // Loan 2 has the pages 0, 1 and 4.
        MemoryCourt x = Check.court("pages 6;process p;every 1;loan p 2 99;loan p 2 99;");
        x.giveBack(0, 2);
        x.ask(0, 3, 99);
        x.run(1);
        Check.equal(Check.pages(x), "22112.");
        Check.all("2 2211..", x.giveBack(2, 1), Check.pages(x));
        Check.all("1 2.11..", x.giveBack(2, 1), Check.pages(x));
        x.undo();
        x.undo();
        Check.all("1 2.11..", x.giveBack(2, 2), Check.pages(x));
        Check.all("0 ..11..", x.giveBack(2, 1), Check.pages(x));
    }

    // ---- promise 31

    // ticks: 1 to 99.  Throws IllegalArgumentException if ticks is out of range
    private static void renewBy1To99() {
        MemoryCourt x = Check.court("pages 9;process p;loan p 1 1;");
        for (int ticks : new int[] {0, -1, 100, LEAST, MOST}) {
            Check.noArgument(() -> x.renew(0, ticks));
        }
        Check.all("2 101 101", x.renew(0, 1), x.renew(0, 99), x.loan(0, 2));
        x.giveBack(0, 1);
        Check.noArgument(() -> x.renew(0, 0));
        for (int loan : new int[] {-1, 1, LEAST, MOST}) {
            Check.noIndex(() -> x.renew(loan, 1));
            Check.noIndex(() -> x.renew(loan, 0));
        }
        // Behind the end of the time.
        MemoryCourt y = Check.court("pages 9;process p;loan p 1 99;");
        for (int i = 1; i <= 25; i++) {
            Check.equal(y.renew(0, 99), 99 + 99 * i);
        }
        Check.equal(y.loan(0, 2), 2574);
    }

    // Throws IllegalStateException if it is not open
    private static void renewAnOpenOne() {
        MemoryCourt x = Check.court("pages 9;process p;loan p 2 9;");
        x.giveBack(0, 1);
        Check.equal(x.renew(0, 1), 10);
        x.giveBack(0, 1);
        Check.noState(() -> x.renew(0, 1));
        x.undo();
        Check.equal(x.renew(0, 1), 11);
    }

    // ... or is broken
    private static void renewAKeptOne() {
        MemoryCourt x = Check.court("pages 9;process p;every 50;loan p 2 9;");
        x.run(9);
        Check.equal(x.renew(0, 1), 10);
        x.undo();
        x.run(1);
        Check.noState(() -> x.renew(0, 1));
        // Another loan of the process may be broken: it is the record that tells.
        MemoryCourt y = Check.court("pages 9;process p;every 50;loan p 2 9;loan p 2 99;");
        y.run(49);
        Check.equal(y.renew(1, 1), 100);
        y.run(1);
        Check.noState(() -> y.renew(1, 1));
    }

    // ... its process has a record above 0
    private static void renewWithoutARecord() {
        // The record of p is 1 at 2, and 0 at 3; that of q is 0.
        MemoryCourt x = Check.court("pages 9;process p;process q;every 2;fade 3;loan p 1 1;loan p 1 99;loan q 1 99;");
        Check.equal(x.renew(1, 1), 100);
        x.run(2);
        Check.equal(x.process(0, 0), 1);
        Check.noState(() -> x.renew(1, 1));
        Check.equal(x.renew(2, 1), 100);
        x.run(1);
        Check.all("0 101", x.process(0, 0), x.renew(1, 1));
    }

    // ... or a claim of another process waits
    private static void renewWithoutClaimsOfOthers() {
        MemoryCourt x = Check.court("pages 9;process p;process q;every 1;patience 2;loan p 5 99;loan q 2 99;ask p 9 1;");
        Check.equal(x.renew(0, 1), 100);
        Check.noState(() -> x.renew(1, 1));
        x.ask(1, 9, 1);
        Check.noState(() -> x.renew(0, 1));
        x.withdraw(0);
        Check.equal(x.renew(1, 1), 100);
        // One that was refused, met or withdrawn does not wait.
        x.run(2);
        Check.all("2 101", x.claim(1, 3), x.renew(0, 1));
        x.ask(1, 2, 99);
        Check.noState(() -> x.renew(0, 1));
        x.run(1);
        Check.all("1 102", x.claim(2, 3), x.renew(0, 1));
        x.withdraw(x.ask(1, 1, 1));
        Check.equal(x.renew(0, 1), 103);
    }

    // ---- promises 32 to 34

    // ticks: 0 to 99.  Throws IllegalArgumentException if ticks is out of range
    private static void stall0To99() {
        MemoryCourt x = Check.court("pages 9;process p;process q;");
        for (int ticks : new int[] {-1, 100, LEAST, MOST}) {
            Check.noArgument(() -> x.stall(0, ticks));
        }
        Check.all("0 99 0 1 0", x.stall(0, 99), x.stall(0, 0), x.stall(0, 1), x.stall(0, 0), x.stall(1, 99));
        for (int process : new int[] {-1, 2, LEAST, MOST}) {
            Check.noIndex(() -> x.stall(process, 0));
            Check.noIndex(() -> x.stall(process, 100));
        }
        Check.noIndex(() -> new MemoryCourt().stall(0, 0));
        // It is set, not added, and 0 ends it at once.
        x.run(1);
        Check.all("98 0 98 0", x.process(1, 2), x.process(0, 9), x.stall(1, 0), x.run(1));
        Check.all("0 1 false", x.process(1, 2), x.process(1, 9), x.wasStalled(1, 2));
    }

    // Throws NoSuchElementException if there is no such fine, or it is not known any more
    private static void appealAKnownFine() {
        MemoryCourt x = behind(41, "pages 4;process p;every 1;appeal 99;loan p 1 1;");
        for (int fine : new int[] {-1, 40, LEAST, MOST}) {
            Check.noElement(() -> x.appeal(fine));
        }
        Check.all("0 0", x.appeal(0), x.appeal(39));
        Check.noState(() -> x.appeal(0));
        x.run(1);
        Check.noElement(() -> x.appeal(41));
        Check.all("0 0", x.appeal(1), x.appeal(40));
        Check.noElement(() -> new MemoryCourt().appeal(0));
        // Of a hearing with more fines than are known the first ones are not known at once.
        StringBuilder text = new StringBuilder("pages 64;process p;every 1;appeal 99;");
        for (int i = 0; i < 45; i++) {
            text.append("ask p1 1;");
        }
        MemoryCourt y = behind(3, text.toString());
        Check.all("45 0 0", y.count(18), y.appeal(5), y.appeal(44));
        Check.noElement(() -> y.appeal(4));
        Check.noElement(() -> y.appeal(0));
    }

    // Returns by how much the fine becomes less.
    private static void appealReturnsTheDifference() {
        // Without evidence nothing, with all the evidence the whole fine.
        for (int evidence : new int[] {0, 5}) {
            MemoryCourt x = behind(2, "pages 9;process p;every 7;base 30;loan p 3 2;");
            x.stall(0, evidence);
            x.run(5);
            Check.all(evidence + " " + (5 - evidence), x.appeal(0), x.fine(0, 5));
        }
    }

    // order: 0 to 2.  Throws IllegalArgumentException if order is out of range
    private static void setOrder0To2() {
        MemoryCourt x = new MemoryCourt();
        for (int order : new int[] {-1, 3, LEAST, MOST}) {
            Check.noArgument(() -> x.setOrder(order));
        }
        Check.all("0 0 2 1 0", x.count(3), x.setOrder(2), x.setOrder(1), x.setOrder(0), x.count(3));
    }

    // ---- promise 35 and section 7

    // Throws IllegalStateException if there is none
    private static void undoNothing() {
        Check.noState(new MemoryCourt()::undo);
        MemoryCourt x = Check.court("pages 9;process p;");
        Check.noState(x::undo);
        x.stall(0, 1);
        Check.equal(x.undo(), 0);
        Check.noState(x::undo);
        // What was undone does not come back.
        Check.equal(x.process(0, 2), 0);
    }

    // The latest 8 changes can be undone
    private static void undoTheLatest8() {
        for (int changes : new int[] {7, 8, 9, 16, 17}) {
            MemoryCourt x = Check.court("pages 9;process p;");
            for (int i = 1; i <= changes; i++) {
                x.stall(0, i);
            }
            for (int left = Math.min(changes, 8) - 1; left >= 0; left--) {
                Check.all(left + " " + left, x.undo(), x.count(20));
            }
            Check.equal(x.process(0, 2), Math.max(0, changes - 8));
            Check.noState(x::undo);
            Check.equal(x.process(0, 2), Math.max(0, changes - 8));
        }
        // A change behind an undo takes the place of the one that was undone.
        MemoryCourt y = Check.court("pages 9;process p;");
        for (int i = 1; i <= 9; i++) {
            y.stall(0, i);
        }
        Check.all("7 6", y.undo(), y.undo());
        Check.all("7 50 8 60", y.stall(0, 50), y.stall(0, 60), y.count(20), y.stall(0, 70));
        int[] due = {60, 50, 7, 6, 5, 4, 3, 2};
        for (int i = 0; i < due.length; i++) {
            Check.all(7 - i + " " + due[i], y.undo(), y.process(0, 2));
        }
        Check.noState(y::undo);
    }

    // Changes are the methods of the section "Changes" below, apart from undo
    private static void eachMethodIsOneChange() {
        MemoryCourt x = behind(4, "pages 9;process p;process q;every 4;base 100;loan p 1 2;loan q 2 90;");
        int count = x.count(20);
        x.ask(1, 1, 1);
        Check.equal(x.count(20), ++count);
        x.withdraw(0);
        Check.equal(x.count(20), ++count);
        x.giveBack(1, 1);
        Check.equal(x.count(20), ++count);
        x.renew(1, 1);
        Check.equal(x.count(20), ++count);
        x.appeal(0);
        Check.equal(x.count(20), ++count);
        // Also if they leave all as it was.
        x.stall(0, 0);
        Check.equal(x.count(20), ++count);
        x.setOrder(0);
        Check.equal(x.count(20), ++count);
        Check.all("8 1", count, x.count(17));
        for (int left = 7; left >= 1; left--) {
            Check.equal(x.undo(), left);
        }
        Check.equal(Check.counts(x), "9 2 4 0 4 100 20 3 10 6 2 2 1 0 0 0 0 1 1 0 1");
        Check.all("0 0 90", x.undo(), x.count(2), x.loan(1, 2));
    }

    // Undoes the latest change: loans, claims, fines and pages that it made, met, put off or took back are as before
    private static void undoOfARun() {
        String text = "pages 9;process p;process q;every 2;patience 1;base 100;loan p 4 1;loan q 2 9;ask q 5 9;ask q 9 9;";
        MemoryCourt x = Check.court(text), fresh = Check.court(text);
        x.stall(0, 2);
        x.run(2);
        Check.equal(Check.counts(x), "9 2 2 0 2 100 20 1 10 0 3 3 1 2 0 1 1 1 1 2 2");
        Check.equal(x.undo(), 1);
        fresh.stall(0, 2);
        Check.equal(Check.counts(x), Check.counts(fresh));
        Check.all(Check.pages(fresh) + " " + Check.processOf(fresh, 0) + "|" + Check.processOf(fresh, 1),
            Check.pages(x), Check.processOf(x, 0) + "|" + Check.processOf(x, 1));
        Check.all(Check.loanOf(fresh, 0) + "|" + Check.loanOf(fresh, 1), Check.loanOf(x, 0) + "|" + Check.loanOf(x, 1));
        Check.all(Check.claimOf(fresh, 0) + "|" + Check.claimOf(fresh, 1), Check.claimOf(x, 0) + "|" + Check.claimOf(x, 1));
        Check.noIndex(() -> x.loan(2, 0));
        Check.noElement(() -> x.fine(0, 0));
        Check.all("false 0 -1 0.0 0.0 -1", x.wasStalled(0, 1), x.overdue(), x.firstBroken(), x.meanLate(), x.metShare(), x.worst());
        Check.all("2 0", x.process(0, 2), x.undo());
        Check.equal(x.process(0, 2), 0);
        // What a saved court took back, and lent, is not that of the court that is restored.
        MemoryCourt y = Check.court(text);
        y.saveState();
        y.run(2);
        y.restoreState();
        Check.all("0 2 2 0 -1", y.count(19), y.count(10), y.count(11), y.overdue(), y.firstBroken());
        y.run(1);
        Check.all("0 0 0", y.count(12), y.overdue(), y.count(18));
    }

    // Changes are ... when they succeed.
    private static void whatIsNoChange() {
        MemoryCourt x = behind(4, "pages 9;process p;process q;every 4;base 100;loan p 1 2;loan q 2 90;ask q 9 9;");
        x.saveState();
        x.printProcess(0);
        x.find();
        x.parse();
        x.metIn(0, 1);
        x.bestOrder(9);
        x.helps(1, 0);
        x.wouldAppeal(0);
        Check.noArgument(() -> x.run(0));
        Check.noIndex(() -> x.ask(2, 1, 1));
        Check.noIndex(() -> x.withdraw(1));
        Check.noArgument(() -> x.giveBack(0, 2));
        Check.noState(() -> x.renew(0, 1));
        Check.noArgument(() -> x.stall(0, 100));
        Check.noElement(() -> x.appeal(1));
        Check.noArgument(() -> x.setOrder(3));
        Check.all("1 0 0", x.count(20), x.undo(), x.count(2));
    }

    // the input buffer, the error, the output and the saved state stay as they are
    private static void undoKeepsTheRest() {
        MemoryCourt x = Check.court("pages 9;process p;process q;");
        Check.input(x, "pages 99;");
        x.parse();
        x.stall(0, 3);
        x.saveState();
        x.printProcess(1);
        x.stall(0, 4);
        Check.input(x, "q");
        Check.all("1 0", x.undo(), x.undo());
        Check.all("2 6 q 0 0 1", x.errorCode(), x.errorOffset(), Check.output(x), x.find());
        Check.all("0 0 3", x.process(0, 2), x.restoreState(), x.process(0, 2));
    }
}
