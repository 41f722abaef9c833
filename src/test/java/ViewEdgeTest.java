/**
 * The edges of the promises 7 and 9 to 26, what there is: a test for each sentence that names one, on
 * both of its sides. Its sentence stands over a test.
 */
public final class ViewEdgeTest {
    private static final int LEAST = Integer.MIN_VALUE, MOST = Integer.MAX_VALUE;

    public static void main(String[] args) throws Exception {
        Check.tests(ViewEdgeTest.class);
    }

    private static MemoryCourt behind(int ticks, String text) {
        MemoryCourt x = Check.court(text);
        Check.pass(x, ticks);
        return x;
    }

    // ---- promise 7

    // Returns the number; NONE for another what.
    private static void countOf0To20() {
        MemoryCourt x = Check.court("pages 9;process p;every 7;");
        Check.all("-1 9 0 -1 -1 -1", x.count(-1), x.count(0), x.count(20), x.count(21), x.count(LEAST), x.count(MOST));
    }

    // 9 pages that are free: none, some, all
    private static void countOfFreePages() {
        Check.equal(Check.court("pages 9;").count(9), 9);
        Check.equal(Check.court("pages 9;process p;loan p 9 9;").count(9), 0);
        Check.equal(Check.court("pages 9;process p;loan p 8 9;").count(9), 1);
    }

    // 10 loans that were made, 11 open loans, 12 broken loans
    private static void countOfLoans() {
        MemoryCourt x = Check.court("pages 9;process p;every 50;loan p 1 1;loan p 1 2;");
        Check.all("2 2 0", x.count(10), x.count(11), x.count(12));
        x.run(1);
        Check.equal(x.count(12), 0);
        x.run(1);
        Check.all("2 2 1", x.count(10), x.count(11), x.count(12));
        x.giveBack(0, 1);
        Check.all("2 1 0", x.count(10), x.count(11), x.count(12));
        x.giveBack(1, 1);
        Check.all("2 0 0", x.count(10), x.count(11), x.count(12));
    }

    // 13 claims that were told and asked, 14 ... that wait, 15 ... that were met, 16 ... that were refused
    private static void countOfClaims() {
        MemoryCourt x = Check.court("pages 9;process p;every 1;patience 1;");
        Check.all("0 0 0 0", x.count(13), x.count(14), x.count(15), x.count(16));
        x.ask(0, 9, 1);
        x.ask(0, 1, 1);
        x.ask(0, 1, 1);
        Check.all("3 3 0 0", x.count(13), x.count(14), x.count(15), x.count(16));
        x.withdraw(2);
        Check.all("3 2 0 0", x.count(13), x.count(14), x.count(15), x.count(16));
        x.run(1);
        Check.all("3 0 1 1", x.count(13), x.count(14), x.count(15), x.count(16));
    }

    // Numbers of the court count those of all processes, the last one, too.
    private static void countOfAllProcesses() {
        MemoryCourt x = behind(2, "pages 20;process p;process q;every 2;patience 1;loan q 2 1;loan p 1 1;loan q 3 2;loan p 1 2;ask q 1 1;ask p 1 1;");
        x.ask(1, 9, 1);
        x.ask(0, 9, 1);
        x.run(1);
        Check.all("4 4 4 2 0 2 2", x.count(10), x.count(11), x.count(12), x.count(14), x.count(15), x.count(16), x.count(18));
        Check.all("2 2 2 2", x.process(0, 4), x.process(1, 4), x.process(0, 5), x.process(1, 5));
        Check.all("7 0 1.5 0.0", x.overdue(), x.firstBroken(), x.meanLate(), x.metShare());
        MemoryCourt y = behind(2, "pages 20;process p;process q;every 2;ask q 1 1;ask p 1 1;ask q 1 1;");
        Check.all("3 1 2 1.0", y.count(15), y.process(0, 7), y.process(1, 7), y.metShare());
    }

    // 18 fines, known or not
    private static void countOfFinesKnownOrNot() {
        MemoryCourt x = behind(1, "pages 4;process p;every 1;loan p 1 1;");
        Check.all("0 0", x.count(18), x.process(0, 8));
        Check.pass(x, 41);
        Check.all("41 41", x.count(18), x.process(0, 8));
    }

    // 19 pages that were taken back: not those that were given back
    private static void countOfPagesTakenBack() {
        MemoryCourt x = behind(1, "pages 4;process p;process q;every 2;loan p 4 1;ask q 2 9;");
        x.giveBack(0, 1);
        Check.all("0 1 1 1", x.count(19), x.run(1), x.count(19), x.loan(0, 6));
        x.giveBack(0, 2);
        Check.all("1 1", x.count(19), x.loan(0, 6));
    }

    // 20 changes that can be undone
    private static void countOfChangesUpTo8() {
        MemoryCourt x = new MemoryCourt();
        int[] due = {0, 1, 2, 3, 4, 5, 6, 7, 8, 8, 8};
        for (int changes = 0; changes < due.length; changes++) {
            Check.equal(x.count(20), due[changes]);
            x.setOrder(1);
        }
    }

    // ---- promise 9

    // Throws IndexOutOfBoundsException if there is no such process or property
    private static void processAndItsProperties() {
        MemoryCourt x = Check.court("pages 9;process a;process b;process c;process d;process e;process f;process g;process h;"
            + "loan h 2 9;");
        Check.all("0 0 0 2 1", x.process(0, 0), x.process(0, 9), x.process(7, 0), x.process(7, 3), x.process(7, 4));
        Check.noIndex(() -> x.process(-1, 0));
        Check.noIndex(() -> x.process(8, 0));
        Check.noIndex(() -> x.process(0, -1));
        Check.noIndex(() -> x.process(0, 10));
        Check.noIndex(() -> x.process(LEAST, LEAST));
        Check.noIndex(() -> x.process(MOST, MOST));
        Check.noIndex(() -> new MemoryCourt().process(0, 0));
    }

    // 3 the pages that it has, 4 its open loans, 5 its broken loans: only its own
    private static void processHasItsOwn() {
        MemoryCourt x = behind(2, "pages 9;process p;process q;every 50;loan p 2 1;loan p 3 2;loan q 1 1;ask q 9 9;");
        Check.equal(Check.processOf(x, 0), "0 0 0 5 2 1 0 0 0 0");
        Check.equal(Check.processOf(x, 1), "0 0 0 1 1 1 1 0 0 0");
        x.giveBack(0, 2);
        Check.equal(Check.processOf(x, 0), "0 0 0 3 1 0 0 0 0 0");
        x.giveBack(1, 3);
        Check.equal(Check.processOf(x, 0), "0 0 0 0 0 0 0 0 0 0");
    }

    // ---- promise 10

    // Throws IndexOutOfBoundsException if there is no such loan or property
    private static void loanAndItsProperties() {
        MemoryCourt x = Check.court("pages 9;process p;loan p 2 9;loan p 3 9;");
        Check.all("0 2 0 3", x.loan(0, 0), x.loan(0, 7), x.loan(1, 0), x.loan(1, 7));
        Check.noIndex(() -> x.loan(-1, 0));
        Check.noIndex(() -> x.loan(2, 0));
        Check.noIndex(() -> x.loan(0, -1));
        Check.noIndex(() -> x.loan(0, 8));
        Check.noIndex(() -> x.loan(LEAST, 0));
        Check.noIndex(() -> x.loan(MOST, 0));
        Check.noIndex(() -> x.loan(0, LEAST));
        Check.noIndex(() -> x.loan(0, MOST));
        Check.noIndex(() -> Check.court("pages 9;process p;ask p 1 1;").loan(0, 0));
    }

    // 4 its claim (NONE if the text told it as a loan)
    private static void loanOfAClaimOrOfTheText() {
        MemoryCourt x = behind(5, "pages 9;process p;loan p 1 9;ask p 1 9;");
        Check.all("-1 0", x.loan(0, 4), x.loan(1, 4));
    }

    // 1 the pages that it has ... 6 the pages that were taken back from it, 7 the pages that it got
    private static void loanHasGotAndLost() {
        MemoryCourt x = behind(1, "pages 5;process p;process q;every 2;loan p 5 1;ask q 2 9;");
        Check.all("5 0 5", x.loan(0, 1), x.loan(0, 6), x.loan(0, 7));
        x.giveBack(0, 1);
        Check.all("4 0 5", x.loan(0, 1), x.loan(0, 6), x.loan(0, 7));
        x.run(1);
        Check.all("3 1 5", x.loan(0, 1), x.loan(0, 6), x.loan(0, 7));
        x.giveBack(0, 3);
        Check.all("0 1 5 0", x.loan(0, 1), x.loan(0, 6), x.loan(0, 7), x.loan(0, 5));
    }

    // ---- promises 11 to 14

    // Returns number of the loan; NONE if the page is free.  Throws IndexOutOfBoundsException if there is no such page
    private static void pageFrom0ToTheLast() {
        MemoryCourt x = Check.court("pages 4;process p;loan p 2 9;loan p 1 9;");
        Check.all("0 0 1 -1", x.page(0), x.page(1), x.page(2), x.page(3));
        Check.noIndex(() -> x.page(-1));
        Check.noIndex(() -> x.page(4));
        Check.noIndex(() -> x.page(LEAST));
        Check.noIndex(() -> x.page(MOST));
        MemoryCourt y = Check.court("pages 64;process p;loan p 63 9;");
        Check.all("0 -1", y.page(62), y.page(63));
        Check.noIndex(() -> y.page(64));
    }

    // index: index among its pages by their numbers, from 0.  Throws NoSuchElementException if it has no such page
    private static void pageOfALoanByItsIndex() {
        MemoryCourt x = Check.court("pages 9;process p;every 1;loan p 2 99;loan p 3 99;loan p 2 99;");
        x.giveBack(0, 1);
        x.ask(0, 3, 99);
        x.run(1);
        Check.equal(Check.pages(x), "031112233");
        Check.all("1 7 8", x.pageOf(3, 0), x.pageOf(3, 1), x.pageOf(3, 2));
        Check.noElement(() -> x.pageOf(3, 3));
        Check.noElement(() -> x.pageOf(3, -1));
        Check.noElement(() -> x.pageOf(3, LEAST));
        Check.noElement(() -> x.pageOf(3, MOST));
        x.giveBack(0, 1);
        Check.noElement(() -> x.pageOf(0, 0));
        Check.noIndex(() -> x.pageOf(4, 0));
        Check.noIndex(() -> x.pageOf(-1, 0));
        Check.noIndex(() -> x.pageOf(4, -1));
        Check.noIndex(() -> new MemoryCourt().pageOf(0, 0));
    }

    // Counts the pieces of a loan: rows of pages with numbers that follow one another.
    private static void piecesOfALoan() {
        // Every second page is given back and goes to a loan of its own pieces.
        StringBuilder text = new StringBuilder("pages 18;process p;every 1;");
        for (int i = 0; i < 18; i++) {
            text.append("loan p 1 99;");
        }
        MemoryCourt x = Check.court(text.toString());
        for (int i = 1; i < 18; i += 2) {
            x.giveBack(i, 1);
        }
        x.ask(0, 9, 99);
        x.run(1);
        Check.all("1 0 9", x.pieces(0), x.pieces(1), x.pieces(18));
        x.giveBack(18, 1);
        Check.all("8 15", x.pieces(18), x.pageOf(18, 7));
        Check.noIndex(() -> x.pieces(19));
        Check.noIndex(() -> x.pieces(-1));
        MemoryCourt y = Check.court("pages 64;process p;loan p 64 9;");
        Check.equal(y.pieces(0), 1);
        y.giveBack(0, 64);
        Check.equal(y.pieces(0), 0);
        // The first and the last page are no neighbours.
        MemoryCourt z = Check.court("pages 4;process p;every 1;loan p 1 9;loan p 2 9;");
        z.giveBack(0, 1);
        z.ask(0, 2, 9);
        z.run(1);
        Check.all("2112 2", Check.pages(z), z.pieces(2));
    }

    // Returns the length of the longest row of free pages with numbers that follow one another.
    private static void longestRowOfFreePages() {
        Check.equal(Check.court("pages 64;").longestFree(), 64);
        Check.equal(Check.court("pages 4;").longestFree(), 4);
        MemoryCourt x = Check.court("pages 9;process p;loan p 2 9;loan p 1 9;loan p 3 9;loan p 3 9;");
        Check.equal(x.longestFree(), 0);
        x.giveBack(0, 1);
        Check.equal(x.longestFree(), 1);
        x.giveBack(0, 1);
        Check.equal(x.longestFree(), 2);
        // At the end a row of the same length, then a longer one; then they become one.
        x.giveBack(3, 2);
        Check.equal(x.longestFree(), 2);
        x.giveBack(3, 1);
        Check.equal(x.longestFree(), 3);
        x.giveBack(2, 3);
        Check.equal(x.longestFree(), 6);
        x.giveBack(1, 1);
        Check.equal(x.longestFree(), 9);
    }

    // ---- promises 15 and 16

    // Throws IndexOutOfBoundsException if there is no such claim or property
    private static void claimAndItsProperties() {
        MemoryCourt x = Check.court("pages 9;process p;ask p 2 9;ask p 3 9;");
        Check.all("0 0 0 3", x.claim(0, 0), x.claim(0, 6), x.claim(1, 0), x.claim(1, 1));
        Check.noIndex(() -> x.claim(-1, 0));
        Check.noIndex(() -> x.claim(2, 0));
        Check.noIndex(() -> x.claim(0, -1));
        Check.noIndex(() -> x.claim(0, 7));
        Check.noIndex(() -> x.claim(LEAST, 0));
        Check.noIndex(() -> x.claim(MOST, 0));
        Check.noIndex(() -> x.claim(0, LEAST));
        Check.noIndex(() -> x.claim(0, MOST));
        Check.noIndex(() -> Check.court("pages 9;process p;loan p 1 1;").claim(0, 0));
    }

    // 5 the loan that it became (NONE without one)
    private static void claimAndItsLoan() {
        MemoryCourt x = behind(1, "pages 9;process p;every 1;patience 1;ask p 2 9;ask p 9 9;");
        x.ask(0, 1, 1);
        x.withdraw(2);
        x.ask(0, 1, 1);
        Check.all("0 -1 -1 -1", x.claim(0, 5), x.claim(1, 5), x.claim(2, 5), x.claim(3, 5));
        // It stays when the loan is closed.
        x.giveBack(0, 2);
        Check.equal(x.claim(0, 5), 0);
    }

    // 6 the time at which it was asked
    private static void claimAndItsTime() {
        MemoryCourt x = Check.court("pages 9;process p;every 50;ask p 2 9;");
        x.ask(0, 1, 1);
        x.run(1);
        x.ask(0, 1, 1);
        Check.pass(x, 1999);
        x.ask(0, 1, 1);
        Check.all("0 0 1 2000", x.claim(0, 6), x.claim(1, 6), x.claim(2, 6), x.claim(3, 6));
    }

    // index in this order, from 0.  Throws NoSuchElementException if there are not so many
    private static void waitingFrom0ToTheLast() {
        Check.noElement(() -> new MemoryCourt().waiting(0));
        MemoryCourt x = Check.court("pages 9;process p;every 1;ask p 9 9;ask p 9 9;ask p 8 9;");
        Check.all("0 1 2", x.waiting(0), x.waiting(1), x.waiting(2));
        Check.noElement(() -> x.waiting(3));
        Check.noElement(() -> x.waiting(-1));
        Check.noElement(() -> x.waiting(LEAST));
        Check.noElement(() -> x.waiting(MOST));
        x.withdraw(1);
        Check.all("0 2", x.waiting(0), x.waiting(1));
        Check.noElement(() -> x.waiting(2));
        x.run(1);
        Check.equal(x.waiting(0), 2);
        Check.noElement(() -> x.waiting(1));
        x.withdraw(2);
        Check.noElement(() -> x.waiting(0));
        // All sixty.
        StringBuilder text = new StringBuilder("pages 9;process p;order small;");
        for (int i = 0; i < 60; i++) {
            text.append("ask p").append(i < 59 ? 2 : 1).append(" 1;");
        }
        MemoryCourt y = Check.court(text.toString());
        Check.all("59 0 58", y.waiting(0), y.waiting(1), y.waiting(59));
        Check.noElement(() -> y.waiting(60));
    }

    // Returns a claim that waits, in the order in which claims would be gone through now: barred ones, too.
    private static void waitingCountsBarredOnes() {
        MemoryCourt x = behind(2, "pages 9;process p;process q;every 2;base 100;order clean;loan p 2 1;");
        x.ask(0, 1, 1);
        x.ask(1, 1, 1);
        x.ask(0, 1, 1);
        x.ask(1, 1, 1);
        Check.all("1 3 0 2", x.waiting(0), x.waiting(1), x.waiting(2), x.waiting(3));
    }

    // ---- promises 17 to 19

    // Throws IllegalArgumentException if what is out of range.  Throws NoSuchElementException if there is no such fine ...
    private static void fineAndItsProperties() {
        MemoryCourt x = behind(5, "pages 9;process p;loan p 2 4;loan p 1 3;");
        Check.all("0 1 0 1", x.fine(0, 0), x.fine(0, 7), x.fine(1, 0), x.fine(1, 7));
        Check.noArgument(() -> x.fine(0, -1));
        Check.noArgument(() -> x.fine(0, 8));
        Check.noArgument(() -> x.fine(0, LEAST));
        Check.noArgument(() -> x.fine(0, MOST));
        Check.noElement(() -> x.fine(-1, 0));
        Check.noElement(() -> x.fine(2, 0));
        Check.noElement(() -> x.fine(LEAST, 7));
        Check.noElement(() -> x.fine(MOST, 7));
        Check.noArgument(() -> x.fine(2, 8));
        Check.noElement(() -> new MemoryCourt().fine(0, 0));
        Check.noArgument(() -> new MemoryCourt().fine(0, 8));
    }

    // 6 1 if it was appealed, otherwise 0
    private static void fineWasAppealedOrNot() {
        MemoryCourt x = behind(5, "pages 9;process p;loan p 2 4;");
        Check.all("0 0 1", x.fine(0, 6), x.appeal(0), x.fine(0, 6));
    }

    // Throws NoSuchElementException if there is no such fine, or it is not known any more
    private static void evidenceOfKnownFines() {
        MemoryCourt x = behind(41, "pages 4;process p;every 1;loan p 1 1;");
        Check.all("0 0", x.evidence(0), x.evidence(39));
        Check.noElement(() -> x.evidence(40));
        Check.noElement(() -> x.evidence(-1));
        Check.noElement(() -> x.evidence(LEAST));
        Check.noElement(() -> x.evidence(MOST));
        x.stall(0, 1);
        x.run(1);
        Check.all("0 1", x.evidence(1), x.evidence(40));
        Check.noElement(() -> x.evidence(0));
        Check.noElement(() -> x.evidence(41));
    }

    // Returns true if it was; false also if there was no such tick.  Throws ... if there is no such process
    private static void wasStalledInTicksThatWere() {
        MemoryCourt x = Check.court("pages 9;process p;process q;");
        x.stall(1, 99);
        Check.all("false false", x.wasStalled(1, 0), x.wasStalled(1, 1));
        x.run(99);
        Check.all("false true true false", x.wasStalled(1, 0), x.wasStalled(1, 1), x.wasStalled(1, 99), x.wasStalled(1, 100));
        Check.all("false false", x.wasStalled(0, 1), x.wasStalled(0, 99));
        x.run(1);
        Check.all("true false", x.wasStalled(1, 99), x.wasStalled(1, 100));
        Check.pass(x, 1899);
        x.stall(0, 2);
        x.run(1);
        Check.all("false true false", x.wasStalled(0, 1999), x.wasStalled(0, 2000), x.wasStalled(0, 2001));
        for (int time : new int[] {-1, -8, LEAST, 2008, 4000, MOST}) {
            Check.all("false false", x.wasStalled(0, time), x.wasStalled(1, time));
        }
        Check.noIndex(() -> x.wasStalled(2, 1));
        Check.noIndex(() -> x.wasStalled(-1, 1));
        Check.noIndex(() -> x.wasStalled(2, -1));
        Check.noIndex(() -> new MemoryCourt().wasStalled(0, 0));
    }

    // ---- promises 20 to 26

    // Returns the time; NONE if it would be greater than 2000.
    private static void nextHearingUpTo2000() {
        MemoryCourt x = Check.court("pages 9;every 50;");
        // At the times 0, 49, 50, 51, 1949, 1999 and 2000.
        int[] ticks = {0, 49, 1, 1, 1898, 50, 1}, due = {50, 50, 100, 100, 1950, 2000, -1};
        for (int i = 0; i < due.length; i++) {
            Check.pass(x, ticks[i]);
            Check.equal(x.nextHearing(), due[i]);
        }
        // 1995 is the last multiple of 7, 1998 that of 37.
        Check.all("1995 -1", behind(1994, "pages 9;every 7;").nextHearing(), behind(1995, "pages 9;every 7;").nextHearing());
        Check.all("1998 -1", behind(1997, "pages 9;every 37;").nextHearing(), behind(1998, "pages 9;every 37;").nextHearing());
        Check.all("2000 -1", behind(1999, "pages 9;every 1;").nextHearing(), behind(2000, "pages 9;every 1;").nextHearing());
    }

    // Returns how many pages lack ...: their pages minus those that are free, at least 0.
    private static void shortageIsAtLeast0() {
        MemoryCourt x = Check.court("pages 9;process p;every 2;loan p 4 99;");
        Check.equal(x.shortage(), 0);
        x.ask(0, 4, 1);
        Check.equal(x.shortage(), 0);
        x.ask(0, 1, 1);
        Check.equal(x.shortage(), 0);
        x.ask(0, 1, 1);
        Check.equal(x.shortage(), 1);
        x.ask(0, 9, 1);
        Check.equal(x.shortage(), 10);
        x.giveBack(0, 4);
        Check.equal(x.shortage(), 6);
        x.withdraw(3);
        Check.equal(x.shortage(), 0);
        // Those that were met do not wait any more.
        x.run(2);
        Check.equal(x.shortage(), 0);
        // Those of a barred process do.
        MemoryCourt y = behind(2, "pages 4;process p;every 2;base 100;loan p 3 1;ask p 4 1;");
        Check.all("3 3", y.process(0, 1), y.shortage());
    }

    // Returns the pages that could be taken back now: those of all broken loans.
    private static void overdueOfBrokenLoans() {
        Check.equal(new MemoryCourt().overdue(), 0);
        MemoryCourt x = Check.court("pages 9;process p;every 50;loan p 4 2;loan p 3 3;");
        int[] due = {0, 0, 0, 4, 7, 7};
        for (int time = 0; time < due.length; time++) {
            Check.equal(x.overdue(), due[time]);
            x.run(1);
        }
        x.giveBack(0, 1);
        Check.equal(x.overdue(), 6);
        x.giveBack(0, 3);
        Check.equal(x.overdue(), 3);
    }

    // Returns number of the loan; NONE if no loan is broken.
    private static void firstBrokenOfATie() {
        Check.equal(new MemoryCourt().firstBroken(), -1);
        MemoryCourt x = Check.court("pages 9;process p;every 50;loan p 1 3;loan p 1 2;loan p 1 2;");
        int[] due = {-1, -1, -1, 1, 1};
        for (int time = 0; time < due.length; time++) {
            Check.equal(x.firstBroken(), due[time]);
            x.run(1);
        }
        int[] given = {1, 2, 0}, then = {2, 0, -1};
        for (int i = 0; i < given.length; i++) {
            x.giveBack(given[i], 1);
            Check.equal(x.firstBroken(), then[i]);
        }
    }

    // Returns number of the process, the smallest one on a tie; NONE if there are no processes or all records are 0.
    private static void worstOfATie() {
        Check.equal(new MemoryCourt().worst(), -1);
        Check.equal(Check.court("pages 9;process p;").worst(), -1);
        MemoryCourt x = Check.court("pages 9;process p;process q;process r;every 2;fade 3;loan q 1 1;loan r 1 1;");
        Check.all("-1 0 1 0 -1", x.worst(), x.run(2), x.worst(), x.run(1), x.worst());
        MemoryCourt y = behind(2, "pages 9;process p;process q;process r;every 2;fade 3;loan p 1 1;loan q 2 1;loan r 2 1;");
        Check.equal(y.worst(), 1);
        y = behind(2, "pages 9;process p;process q;process r;every 2;fade 3;loan p 2 1;loan q 2 1;loan r 3 1;");
        Check.equal(y.worst(), 2);
        y = behind(2, "pages 9;process p;process q;process r;every 2;fade 3;loan p 3 1;loan q 1 1;loan r 2 1;");
        Check.equal(y.worst(), 0);
        // The last of eight.
        y = behind(2, "pages 9;process a;process b;process c;process d;process e;process f;process g;process h;every 2;loan h 1 1;");
        Check.equal(y.worst(), 7);
    }

    // Returns the process with the greatest record: among all, however small the other numbers of the court are.
    private static void worstOfAll() {
        String names = "process a;process b;process c;process d;process e;process f;process g;process h;";
        for (int process = 0; process < 8; process++) {
            String text = "pages 4;every 1;base 1;fade 1;patience 1;appeal 0;" + names + "loan " + (char) ('a' + process) + " 4 1;";
            Check.all("4 " + process, behind(2, text).process(process, 0), behind(2, text).worst());
        }
    }

    // Returns the mean; 0 if no loan is broken.
    private static void meanLateOfBrokenLoans() {
        Check.equal(new MemoryCourt().meanLate(), 0.0);
        MemoryCourt x = Check.court("pages 9;process p;every 50;loan p 1 1;loan p 1 2;loan p 1 4;");
        double[] due = {0.0, 0.0, 1.0, 1.5, 2.5, 8.0 / 3.0, 11.0 / 3.0};
        for (int time = 0; time < due.length; time++) {
            Check.equal(x.meanLate(), due[time]);
            x.run(1);
        }
        x.giveBack(0, 1);
        x.giveBack(1, 1);
        Check.equal(x.meanLate(), 3.0);
        x.giveBack(2, 1);
        Check.equal(x.meanLate(), 0.0);
    }

    // Returns the share; 0 if there were none.
    private static void metShareOfJudgedClaims() {
        Check.equal(new MemoryCourt().metShare(), 0.0f);
        MemoryCourt x = Check.court("pages 9;process p;every 1;patience 1;ask p 9 9;");
        Check.equal(x.metShare(), 0.0f);
        x.run(1);
        Check.equal(x.metShare(), 1.0f);
        for (int refused = 1; refused <= 3; refused++) {
            x.ask(0, 1, 1);
            x.run(1);
            Check.equal(x.metShare(), 1.0f / (1 + refused));
        }
        x.withdraw(x.ask(0, 1, 1));
        x.ask(0, 1, 1);
        Check.equal(x.metShare(), 0.25f);
        MemoryCourt y = behind(1, "pages 9;process p;every 1;patience 1;loan p 9 9;ask p 1 9;");
        Check.equal(y.metShare(), 0.0f);
        // Of all processes.
        MemoryCourt z = behind(1, "pages 9;process p;process q;every 1;patience 1;ask q 1 9;ask p 1 9;ask q 9 9;");
        Check.equal(z.metShare(), 2.0f / 3.0f);
    }
}
