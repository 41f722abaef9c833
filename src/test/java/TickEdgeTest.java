/**
 * The edges of the sections 2 to 6: pages and loans, processes, claims, ticks with their hearings, and
 * appeals; a test for each sentence that names one, on both of its sides. Its sentence stands over a test.
 */
public final class TickEdgeTest {
    public static void main(String[] args) throws Exception {
        Check.tests(TickEdgeTest.class);
    }

    private static MemoryCourt behind(int ticks, String text) {
        MemoryCourt x = Check.court(text);
        Check.pass(x, ticks);
        return x;
    }

    // ---- section 2

    // A loan gets the free pages with the smallest numbers.
    private static void loanGetsTheSmallestFreePages() {
        MemoryCourt x = Check.court("pages 8;process p;every 1;loan p 2 99;loan p 3 99;loan p 1 99;");
        Check.equal(Check.pages(x), "001112..");
        x.giveBack(1, 3);
        x.giveBack(0, 1);
        x.ask(0, 5, 99);
        x.run(1);
        Check.equal(Check.pages(x), "0333323.");
        x.ask(0, 1, 99);
        x.run(1);
        Check.equal(Check.pages(x), "03333234");
    }

    // A page is free or belongs to a loan.
    private static void pageIsFreeOrOfALoan() {
        MemoryCourt x = Check.court("pages 9;process p;process q;every 2;loan p 3 1;loan q 2 9;loan p 1 1;ask q 6 1;ask p 1 4;");
        pagesAreShared(x);
        x.giveBack(1, 1);
        pagesAreShared(x);
        x.run(2);
        pagesAreShared(x);
        x.run(8);
        pagesAreShared(x);
        x.undo();
        pagesAreShared(x);
    }

    /** Each page is free, or stands once among those of its loan; loans have no other pages. */
    private static void pagesAreShared(MemoryCourt x) {
        int free = 0, shared = 0;
        for (int page = 0; page < x.count(0); page++) {
            free += x.page(page) == MemoryCourt.NONE ? 1 : 0;
        }
        for (int loan = 0; loan < x.count(10); loan++) {
            int has = x.loan(loan, 1);
            for (int index = 0; index < has; index++) {
                Check.equal(x.page(x.pageOf(loan, index)), loan);
                Check.equal(index == 0 || x.pageOf(loan, index) > x.pageOf(loan, index - 1), true);
            }
            shared += has;
        }
        Check.all(x.count(0) + " " + x.count(9), free + shared, free);
    }

    // It is open while it has pages.
    private static void loanIsOpenWhileItHasPages() {
        MemoryCourt x = Check.court("pages 9;process p;process q;every 50;loan p 2 49;");
        Check.all("1 2", x.count(11), x.loan(0, 1));
        x.giveBack(0, 1);
        Check.all("1 1 1", x.count(11), x.loan(0, 1), x.process(0, 4));
        x.giveBack(0, 1);
        Check.all("0 0 0 1", x.count(11), x.loan(0, 1), x.process(0, 4), x.count(10));
        // Pages that are taken back close a loan as well, when they are all.
        MemoryCourt y = behind(50, "pages 9;process p;process q;every 50;loan p 2 49;ask q 8 9;");
        Check.all("2 1 1", y.count(11), y.loan(0, 1), y.process(0, 4));
        y = behind(50, "pages 9;process p;process q;every 50;loan p 2 49;ask q 9 9;");
        Check.all("1 0 0", y.count(11), y.loan(0, 1), y.process(0, 4));
    }

    // An open loan is broken if the time is greater than its due time.
    private static void loanIsBrokenBehindItsDueTime() {
        MemoryCourt x = Check.court("pages 9;process p;every 50;loan p 2 3;loan p 1 4;loan p 1 1;");
        x.giveBack(2, 1);
        String[] due = {"0 0 0 0", "0 0 0 0", "0 0 0 0", "0 0 0 0", "1 0 0 1", "1 1 0 2", "1 1 0 2"};
        for (int time = 0; time < due.length; time++) {
            Check.all(due[time], x.loan(0, 5), x.loan(1, 5), x.loan(2, 5), x.count(12));
            x.run(1);
        }
        // Without pages it is not broken any more; with a later promise it is not broken yet.
        x.giveBack(0, 2);
        Check.all("0 1", x.loan(0, 5), x.count(12));
        MemoryCourt y = Check.court("pages 9;process p;every 50;loan p 2 3;");
        y.run(3);
        Check.all("4 0", y.renew(0, 1), y.run(1));
        Check.all("0 0 1", y.loan(0, 5), y.run(1), y.loan(0, 5));
    }

    // Loans are numbered from 0 in the order in which they are made.
    private static void loansAreNumberedAsTheyAreMade() {
        MemoryCourt x = Check.court("pages 9;process p;process q;every 1;order small;ask q 2 9;loan q 1 9;ask p 1 9;loan p 1 9;");
        Check.all("2 1 0", x.count(10), x.loan(0, 0), x.loan(1, 0));
        Check.noIndex(() -> x.loan(2, 0));
        Check.equal(x.run(1), 2);
        Check.all("4 1 0 3 2", x.count(10), x.loan(2, 4), x.loan(3, 4), x.claim(0, 5), x.claim(1, 5));
        Check.noIndex(() -> x.loan(4, 0));
        // A number is not used again.
        x.giveBack(3, 2);
        x.ask(0, 1, 1);
        x.run(1);
        Check.all("4 5", x.claim(2, 5), x.count(10));
    }

    // ---- section 3

    // A process has a record, a bar and a stall, all 0 at first.
    private static void processBeginsWith0() {
        MemoryCourt x = Check.court("pages 9;process p;process q;loan q 1 1;ask p 1 1;");
        Check.equal(Check.processOf(x, 0), "0 0 0 0 0 0 1 0 0 0");
        Check.equal(Check.processOf(x, 1), "0 0 0 1 1 0 0 0 0 0");
    }

    // It is barred if its bar is above 0.
    private static void processIsBarredAbove0() {
        // The fine of the hearing at 2 is 3, 2, or none; two ticks later the bar is 2 less.
        String head = "pages 9;process p;every 2;base 100;fade 99;patience 20;";
        MemoryCourt three = behind(2, head + "loan p 3 1;"), two = behind(2, head + "loan p 2 1;"), none = behind(2, head);
        Check.all("3 2 0", three.process(0, 1), two.process(0, 1), none.process(0, 1));
        three.giveBack(0, 3);
        two.giveBack(0, 2);
        for (MemoryCourt x : new MemoryCourt[] {three, two, none}) {
            x.ask(0, 1, 9);
        }
        Check.all("0 1 1", three.run(2), two.run(2), none.run(2));
        Check.all("1 0 0", three.process(0, 1), two.process(0, 1), none.process(0, 1));
        Check.all("1 0 1", three.claim(0, 4), three.claim(0, 3), three.run(2));
        Check.equal(three.claim(0, 3), MemoryCourt.MET);
        // The bar that stands when the claims begin counts: it was fined in this very hearing.
        MemoryCourt now = Check.court(head + "loan p 1 1;ask p 1 9;");
        Check.all("0 1", now.run(2), now.process(0, 1));
    }

    // The record is at most 999
    private static void recordIsAtMost999() {
        String head = "pages 64;process p;every 38;base 1;fade 99;";
        // Weights 36 * 27 + 26, 37 * 27, 36 * 27 + 28.
        MemoryCourt below = behind(38, head + "loan p 27 2;loan p 26 37;"), full = behind(38, head + "loan p 27 1;");
        MemoryCourt above = behind(38, head + "loan p 27 2;loan p 28 37;");
        Check.all("998 999 999", below.process(0, 0), full.process(0, 0), above.process(0, 0));
        Check.all("972 26 28", below.fine(0, 2), below.fine(1, 2), above.fine(1, 2));
        above.run(38);
        Check.equal(above.process(0, 0), 999);
        // At 99 it becomes half of it.
        full.giveBack(0, 27);
        Check.all("999 499", full.processIn(0, 60, 0), full.processIn(0, 61, 0));
    }

    // ..., the bar, too.
    private static void barIsAtMost999() {
        String head = "pages 64;process p;every 14;fade 99;";
        // Fines of 198, 199 and 200, then four of 200 each.
        MemoryCourt below = behind(14, head + "base 95;loan p 16 1;loan p 6 1;loan p 6 1;loan p 6 1;loan p 6 1;");
        MemoryCourt full = behind(14, head + "base 90;loan p 17 1;loan p 5 1;loan p 5 1;loan p 5 1;loan p 5 1;");
        MemoryCourt above = behind(14, head + "base 100;loan p 16 1;loan p 5 1;loan p 5 1;loan p 5 1;loan p 5 1;");
        Check.all("198 199 200", below.fine(0, 5), full.fine(0, 5), above.fine(0, 5));
        Check.all("200 200 200", below.fine(4, 5), full.fine(1, 5), above.fine(4, 5));
        Check.all("998 999 999", below.process(0, 1), full.process(0, 1), above.process(0, 1));
        Check.all("0 0 998 998", full.run(1), above.run(1), full.process(0, 1), above.process(0, 1));
        above.run(13);
        Check.equal(above.process(0, 1), 999);
    }

    // ---- section 4

    // Claims are numbered from 0 in the order in which they are told and asked.
    private static void claimsAreNumberedAsTold() {
        MemoryCourt x = Check.court("pages 9;process p;process q;ask q 1 2;ask p 3 4;");
        Check.all("2 3", x.ask(1, 5, 6), x.ask(0, 7, 8));
        Check.all("1 3 5 7", x.claim(0, 1), x.claim(1, 1), x.claim(2, 1), x.claim(3, 1));
        Check.noIndex(() -> x.claim(4, 1));
        Check.equal(Check.court("pages 9;process p;").ask(0, 1, 1), 0);
    }

    // A claim waits, until it is met, refused or withdrawn.
    private static void claimWaitsUntilItIsSettled() {
        MemoryCourt x = Check.court("pages 9;process p;every 2;patience 1;ask p 4 9;ask p 9 9;ask p 1 9;ask p 5 9;");
        x.withdraw(2);
        Check.all("0 0 3 0", x.claim(0, 3), x.claim(1, 3), x.claim(2, 3), x.claim(3, 3));
        x.run(1);
        Check.all("0 0 3 0", x.claim(0, 3), x.claim(1, 3), x.claim(2, 3), x.claim(3, 3));
        Check.equal(x.run(1), 2);
        Check.all("1 2 3 1", x.claim(0, 3), x.claim(1, 3), x.claim(2, 3), x.claim(3, 3));
        // Then a hearing passes by, even if all pages are free.
        x.giveBack(0, 4);
        x.giveBack(1, 5);
        Check.equal(x.run(8), 0);
        Check.all("1 2 3 1", x.claim(0, 3), x.claim(1, 3), x.claim(2, 3), x.claim(3, 3));
        Check.all("0 1 0 0", x.claim(0, 4), x.claim(1, 4), x.claim(2, 4), x.claim(3, 4));
        Check.all("9 2", x.count(9), x.count(10));
    }

    // ---- section 5

    // The time is the number of ticks that have passed, at most 2000.
    private static void timeIsAtMost2000() {
        MemoryCourt x = behind(1999, "pages 9;every 50;");
        Check.noState(() -> x.run(2));
        Check.all("1999 0 2000 40", x.count(2), x.run(1), x.count(2), x.count(17));
        Check.noState(() -> x.run(1));
        MemoryCourt y = behind(1500, "pages 9;every 50;");
        Check.all("0 2000", y.run(500), y.count(2));
        MemoryCourt z = behind(1501, "pages 9;every 50;");
        Check.noState(() -> z.run(500));
        Check.all("1501 0 2000", z.count(2), z.run(499), z.count(2));
    }

    // a. Each process whose stall is above 0 is stalled in this tick, and its stall becomes 1 less.
    private static void stallAbove0() {
        MemoryCourt x = Check.court("pages 9;process p;process q;process r;");
        x.stall(0, 1);
        x.stall(1, 2);
        String[] due = {"1 2 0 0 0 0", "0 1 0 1 1 0", "0 0 0 1 2 0", "0 0 0 1 2 0"};
        for (String now : due) {
            Check.all(now, x.process(0, 2), x.process(1, 2), x.process(2, 2), x.process(0, 9), x.process(1, 9), x.process(2, 9));
            x.run(1);
        }
        Check.all("false true false", x.wasStalled(0, 0), x.wasStalled(0, 1), x.wasStalled(0, 2));
        Check.all("false true true false", x.wasStalled(1, 0), x.wasStalled(1, 1), x.wasStalled(1, 2), x.wasStalled(1, 3));
        Check.all("false false", x.wasStalled(2, 1), x.wasStalled(2, 2));
    }

    // b. Each bar that is above 0 becomes 1 less.
    private static void barAbove0() {
        MemoryCourt x = behind(2, "pages 9;process p;process q;process r;every 2;base 100;loan p 1 1;loan q 2 1;");
        x.giveBack(0, 1);
        x.giveBack(1, 2);
        String[] due = {"1 2 0", "0 1 0", "0 0 0", "0 0 0"};
        for (String now : due) {
            Check.all(now, x.process(0, 1), x.process(1, 1), x.process(2, 1));
            x.run(1);
        }
    }

    // c. If T is a multiple of fade, each record becomes half of it, rounded down.
    private static void recordsFadeRoundedDown() {
        // Behind the hearing at 2 the records are 5, 4, 1 and 0.
        MemoryCourt x = behind(2, "pages 20;process p;process q;process r;process s;every 2;base 1;fade 5;"
            + "loan p 5 1;loan q 4 1;loan r 1 1;");
        x.giveBack(0, 5);
        x.giveBack(1, 4);
        x.giveBack(2, 1);
        String[] due = {"5 4 1 0", "5 4 1 0", "5 4 1 0", "2 2 0 0", "2 2 0 0", "2 2 0 0", "2 2 0 0", "2 2 0 0", "1 1 0 0"};
        for (int i = 0; i < due.length; i++) {
            Check.all(due[i], x.process(0, 0), x.process(1, 0), x.process(2, 0), x.process(3, 0));
            x.run(1);
        }
        // Every tick with 1; at 99 for the first time with 99.
        MemoryCourt y = behind(2, "pages 20;process p;every 2;base 1;fade 1;loan p 9 1;");
        y.giveBack(0, 9);
        Check.all("9 4 2 1 0 0", y.process(0, 0), y.processIn(0, 1, 0), y.processIn(0, 2, 0), y.processIn(0, 3, 0),
            y.processIn(0, 4, 0), y.processIn(0, 5, 0));
        MemoryCourt z = behind(50, "pages 20;process p;every 50;base 1;fade 99;loan p 9 49;");
        z.giveBack(0, 9);
        Check.all("9 9 4 4 2", z.process(0, 0), z.processIn(0, 48, 0), z.processIn(0, 49, 0), z.processIn(0, 147, 0),
            z.processIn(0, 148, 0));
    }

    // d. If T is a multiple of every, there is a hearing.
    private static void hearingsAtMultiplesOfEvery() {
        MemoryCourt x = Check.court("pages 9;every 50;");
        Check.all("0 50", x.count(17), x.nextHearing());
        int[] ticks = {49, 1, 1, 48, 1}, hearings = {0, 1, 1, 1, 2};
        for (int i = 0; i < ticks.length; i++) {
            x.run(ticks[i]);
            Check.equal(x.count(17), hearings[i]);
        }
        MemoryCourt y = Check.court("pages 9;every 1;");
        Check.all("0 0 1 0 2", y.count(17), y.run(1), y.count(17), y.run(1), y.count(17));
    }

    // One tick has these steps: stalls, bars and records come ahead of the hearing.
    private static void stepsGoInTheirOrder() {
        // At 2 weight, fine, record and bar are 50; at 4 the record is 25 and the bar 48 before the fine of 125.
        MemoryCourt x = Check.court("pages 60;process p;every 2;base 100;fade 4;loan p 50 1;");
        x.run(2);
        Check.all("50 50", x.process(0, 0), x.process(0, 1));
        x.run(1);
        x.stall(0, 1);
        x.run(1);
        Check.all("0 0 100 2 4 125 0 125", Check.fineOf(x, 1));
        Check.all("125 173", x.process(0, 0), x.process(0, 1));
        // The stall of the tick with the hearing is evidence for it.
        Check.all("1 0", x.evidence(1), x.evidence(0));
    }

    // Fines: for each broken loan ... its process is fined.
    private static void onlyBrokenLoansAreFined() {
        MemoryCourt none = behind(5, "pages 9;process p;");
        Check.all("0 1 0", none.count(18), none.count(17), none.process(0, 8));
        // Due at 4, 5 and 6; the one due at 4 is fined at 5 for one tick, the one due at 5 is not.
        MemoryCourt x = behind(5, "pages 9;process p;loan p 1 5;loan p 1 4;loan p 1 6;");
        Check.all("1 1 4 5", x.count(18), x.fine(0, 1), x.fine(0, 3), x.fine(0, 4));
        // Without pages there is no fine.
        MemoryCourt y = behind(4, "pages 9;process p;loan p 1 1;loan p 2 1;");
        y.giveBack(0, 1);
        y.giveBack(1, 1);
        y.run(1);
        Check.all("1 1 4", y.count(18), y.fine(0, 1), y.fine(0, 2));
    }

    // ... by number
    private static void finesGoByTheNumbersOfTheLoans() {
        // Weights 40 and 10 of p, whichever is due first; the record of the first one raises the second fine.
        MemoryCourt x = behind(5, "pages 30;process p;base 10;loan p 10 1;loan p 10 4;");
        Check.all("0 4 1 5", x.fine(0, 1), x.fine(0, 5), x.fine(1, 1), x.fine(1, 5));
        MemoryCourt y = behind(5, "pages 30;process p;base 10;loan p 10 4;loan p 10 1;");
        Check.all("0 1 1 8", y.fine(0, 1), y.fine(0, 5), y.fine(1, 1), y.fine(1, 5));
    }

    // The span goes from the due time of the loan or from the time of the hearing before, whichever is later, to T
    private static void spanBeginsAtTheLaterOne() {
        MemoryCourt x = behind(10, "pages 9;process p;every 5;base 1;loan p 1 4;loan p 1 5;loan p 1 6;loan p 1 9;loan p 1 10;");
        Check.equal(x.count(18), 5);
        Check.equal(Check.fineOf(x, 0), "0 0 1 4 5 1 0 1");
        Check.equal(Check.fineOf(x, 1), "0 0 5 5 10 1 0 1");
        Check.equal(Check.fineOf(x, 2), "0 1 5 5 10 1 0 1");
        Check.equal(Check.fineOf(x, 3), "0 2 4 6 10 1 0 1");
        Check.equal(Check.fineOf(x, 4), "0 3 1 9 10 1 0 1");
        // Without a hearing before it is the due time, be it the smallest.
        Check.equal(Check.fineOf(behind(50, "pages 9;process p;every 50;base 1;loan p 1 1;"), 0), "0 0 49 1 50 1 0 1");
    }

    // The fine is weight * (base + record) / 100, rounded up
    private static void fineIsRoundedUp() {
        // Ten ticks: the weight is ten times the pages.
        int[] pages = {10, 10, 10, 11, 11, 9, 9, 9, 1, 1};
        int[] base = {1, 10, 100, 1, 10, 1, 11, 9, 10, 1};
        int[] fine = {1, 10, 100, 2, 11, 1, 10, 9, 1, 1};
        for (int i = 0; i < fine.length; i++) {
            String text = "pages 20;process p;every 11;base " + base[i] + ";loan p " + pages[i] + " 1;";
            Check.all(fine[i] + " " + fine[i], behind(11, text).fine(0, 5), Check.court(text).wouldFine(0));
        }
        // The smallest weight and the smallest base; and with a record: 1 * 99, 1 * 100 and 1 * 101 hundredths.
        Check.equal(behind(2, "pages 9;process p;every 2;base 1;loan p 1 1;").fine(0, 5), 1);
        for (int more = 98; more <= 100; more++) {
            MemoryCourt x = behind(2, "pages 9;process p;every 2;base " + more + ";loan p 1 1;loan p 1 1;");
            Check.all("1 " + (more < 100 ? 1 : 2), x.fine(0, 5), x.fine(1, 5));
        }
    }

    // ..., at most 200.
    private static void fineIsAtMost200() {
        // 198.9, 199.5, 200, 200.2, and far above.
        Check.equal(Check.court("pages 64;process p;every 14;base 90;loan p 17 1;").wouldFine(0), 199);
        Check.equal(Check.court("pages 64;process p;every 31;base 95;loan p 7 1;").wouldFine(0), 200);
        Check.equal(Check.court("pages 64;process p;every 26;base 100;loan p 8 1;").wouldFine(0), 200);
        Check.equal(Check.court("pages 64;process p;every 11;base 91;loan p 22 1;").wouldFine(0), 200);
        MemoryCourt x = behind(50, "pages 64;process p;every 50;base 100;loan p 64 1;");
        Check.equal(Check.fineOf(x, 0), "0 0 3136 1 50 200 0 200");
        Check.all("999 200", x.process(0, 0), x.process(0, 1));
    }

    // Fines are numbered from 0; the latest 40 are known.
    private static void latest40FinesAreKnown() {
        // One fine in each tick from 2 on; that at the time T has the number T - 2.
        MemoryCourt x = behind(41, "pages 4;process p;every 1;fade 99;appeal 99;loan p 1 1;");
        Check.all("40 40 2 41", x.count(18), x.process(0, 8), x.fine(0, 4), x.fine(39, 4));
        Check.all("0 0", x.evidence(0), x.wouldAppeal(0));
        Check.noElement(() -> x.fine(40, 0));
        x.run(1);
        Check.all("41 41 3 42", x.count(18), x.process(0, 8), x.fine(1, 4), x.fine(40, 4));
        Check.noElement(() -> x.fine(0, 0));
        Check.noElement(() -> x.fine(41, 0));
        Check.noElement(() -> x.evidence(0));
        Check.noElement(() -> x.appeal(0));
        Check.noElement(() -> x.wouldAppeal(0));
        Check.equal(x.appeal(1), 0);
        x.undo();
        x.undo();
        // The fine that was not known any more is known again.
        Check.all("40 2 0", x.count(18), x.fine(0, 4), x.wouldAppeal(0));
        Check.pass(x, 40);
        Check.all("80 42 81", x.count(18), x.fine(40, 4), x.fine(79, 4));
        Check.noElement(() -> x.fine(39, 0));
    }

    // ... the claims that wait are gone through: by first in the order of their numbers
    private static void orderFirst() {
        MemoryCourt x = behind(1, "pages 9;process p;process q;every 1;ask q 4 9;ask p 3 9;ask q 1 9;ask p 1 9;");
        Check.equal(Check.pages(x), "000011123");
        Check.equal(behind(1, "pages 9;process p;every 1;").run(1), 0);
    }

    // ... by small first those for the fewest pages ..., on a tie in the order of their numbers
    private static void orderSmall() {
        MemoryCourt x = Check.court("pages 9;process p;process q;every 1;order small;ask q 3 9;ask p 2 9;ask q 2 9;ask p 1 9;ask q 3 9;");
        Check.all("3 1 2 0 4", x.waiting(0), x.waiting(1), x.waiting(2), x.waiting(3), x.waiting(4));
        Check.equal(x.run(1), 4);
        Check.equal(Check.pages(x), "01122333.");
        Check.all("3 0 4", x.loan(0, 4), x.loan(3, 4), x.waiting(0));
    }

    // ... by clean first those whose process has the smallest record as the claims begin; on a tie ...
    private static void orderClean() {
        // The records are 3 and 2; at 4 they have faded to 1 and 1, so that the numbers tell.
        String head = "pages 9;process p;process q;process r;every 2;base 1;order clean;loan p 3 1;loan q 2 1;";
        for (int fade : new int[] {4, 5}) {
            MemoryCourt x = behind(2, head + "fade " + fade + ";");
            Check.all("3 2 0", x.process(0, 0), x.process(1, 0), x.process(2, 0));
            x.giveBack(0, 3);
            x.giveBack(1, 2);
            x.ask(0, 1, 9);
            x.ask(1, 1, 9);
            x.ask(2, 1, 9);
            x.ask(2, 1, 9);
            x.ask(1, 1, 9);
            Check.all("2 3 1 4 0", x.waiting(0), x.waiting(1), x.waiting(2), x.waiting(3), x.waiting(4));
            Check.equal(x.run(2), 5);
            Check.all(fade == 4 ? "4 5 2 3 6" : "6 4 2 3 5", x.claim(0, 5), x.claim(1, 5), x.claim(2, 5), x.claim(3, 5), x.claim(4, 5));
        }
    }

    // If its process is barred, a claim is put off.
    private static void barredClaimIsPutOff() {
        // All pages but one are free, and the broken one could be taken back.
        MemoryCourt x = behind(2, "pages 9;process p;process q;every 2;base 100;fade 99;loan p 1 1;ask p 1 9;ask q 1 9;");
        Check.all("0 1 1 0", x.claim(0, 3), x.claim(0, 4), x.claim(1, 3), x.claim(1, 4));
        // Neither gets it the page of its own that it keeps.
        MemoryCourt y = behind(2, "pages 4;process p;every 2;loan p 4 1;ask p 1 9;");
        Check.all("0 1 0", y.claim(0, 3), y.claim(0, 4), y.count(19));
    }

    // Otherwise, if its pages are at most those that are free, it is met.
    private static void claimForAtMostTheFreePagesIsMet() {
        String head = "pages 9;process p;process q;every 1;loan p 4 99;";
        MemoryCourt just = behind(1, head + "ask q 5 9;"), more = behind(1, head + "ask q 6 9;");
        Check.all("1 0 0", just.claim(0, 3), just.count(9), just.count(19));
        Check.all("0 5 0", more.claim(0, 3), more.count(9), more.claim(0, 4) - 1);
        Check.equal(behind(1, "pages 64;process p;every 1;ask p 64 9;").claim(0, 3), 1);
        // With just enough free pages none is taken back from a broken loan.
        MemoryCourt x = behind(2, "pages 9;process p;process q;every 2;loan p 4 1;ask q 5 9;");
        Check.all("1 4 0", x.claim(0, 3), x.loan(0, 1), x.count(19));
        x = behind(2, "pages 9;process p;process q;every 2;loan p 4 1;ask q 6 9;");
        Check.all("1 3 1", x.claim(0, 3), x.loan(0, 1), x.count(19));
    }

    // Otherwise, what lacks is taken back, if all broken loans together have so many pages ... If they have not, ...
    private static void whatLacksIsTakenBackOrNothing() {
        // 2 pages are free, 5 are broken, 2 are kept until 2.
        String head = "pages 9;process p;process q;every 2;loan p 3 1;loan p 2 1;loan p 2 2;";
        MemoryCourt just = behind(2, head + "ask q 7 9;"), more = behind(2, head + "ask q 8 9;");
        Check.all("1 5 0 0 2 0", just.claim(0, 3), just.count(19), just.loan(0, 1), just.loan(1, 1), just.loan(2, 1), just.count(9));
        Check.all("0 0 3 2 2 2", more.claim(0, 3), more.count(19), more.loan(0, 1), more.loan(1, 1), more.loan(2, 1), more.count(9));
        Check.all("1", more.claim(0, 4));
        // What one claim took is not there for the next one.
        MemoryCourt x = behind(2, head + "ask q 5 9;ask q 2 9;ask q 1 9;");
        Check.all("1 1 0 5", x.claim(0, 3), x.claim(1, 3), x.claim(2, 3), x.count(19));
        x = behind(2, head + "ask q 5 9;ask q 3 9;ask q 2 9;");
        Check.all("1 0 1 5", x.claim(0, 3), x.claim(1, 3), x.claim(2, 3), x.count(19));
    }

    // ... from the loan with the smallest due time first (on a tie the smallest number)
    private static void smallestDueTimeFirst() {
        String head = "pages 8;process p;process q;every 5;loan p 2 3;loan p 2 2;loan p 2 2;loan p 2 1;";
        String[] due = {"2 2 2 1", "2 2 2 0", "2 1 2 0", "2 0 2 0", "2 0 1 0", "2 0 0 0", "1 0 0 0", "0 0 0 0"};
        for (int pages = 1; pages <= 8; pages++) {
            MemoryCourt x = behind(5, head + "ask q " + pages + " 9;");
            Check.all(due[pages - 1], x.loan(0, 1), x.loan(1, 1), x.loan(2, 1), x.loan(3, 1));
            Check.all(pages + " 0", x.count(19), x.loan(4, 6));
        }
    }

    // ... from each one the pages with the greatest numbers first
    private static void greatestPagesFirst() {
        // Loan 1 has the pages 0 and 3, loan 0 those between.
        MemoryCourt x = Check.court("pages 5;process p;process q;every 1;loan p 1 99;loan p 2 99;");
        x.giveBack(0, 1);
        x.ask(0, 2, 1);
        x.run(1);
        Check.equal(Check.pages(x), "2112.");
        x.ask(1, 2, 99);
        Check.equal(x.run(1), 0);
        Check.equal(x.run(1), 1);
        Check.equal(Check.pages(x), "21133");
        Check.all("0 1 1", x.pageOf(2, 0), x.loan(2, 1), x.loan(2, 6));
    }

    // ... from each one: the pages that it still has, whatever it got.
    private static void takenFromWhatALoanStillHas() {
        // Loan 0 got five pages and has two, loan 1 has four; three are free.
        String text = "pages 9;process p;process q;every 2;loan p 5 1;loan p 4 1;";
        int[] asked = {3, 4, 5, 6, 7, 8, 9};
        String[] due = {"2 4 0 0", "1 4 1 0", "0 4 2 0", "0 3 2 1", "0 2 2 2", "0 1 2 3", "0 0 2 4"};
        for (int i = 0; i < asked.length; i++) {
            MemoryCourt x = Check.court(text + "ask q " + asked[i] + " 9;");
            x.giveBack(0, 3);
            Check.equal(x.run(2), 1);
            Check.all(due[i], x.loan(0, 1), x.loan(1, 1), x.loan(0, 6), x.loan(1, 6));
            Check.all(asked[i] - 3 + " " + asked[i], x.count(19), x.loan(2, 1));
        }
        MemoryCourt x = Check.court(text + "ask q 8 9;");
        x.giveBack(0, 3);
        x.run(2);
        Check.equal(Check.pages(x), "222221222");
        // Two claims of one hearing, one behind the other, from the same loan.
        MemoryCourt y = Check.court(text + "ask q 4 9;ask q 3 9;");
        y.giveBack(0, 3);
        Check.all("2 0 2 2 2 4", y.run(2), y.loan(0, 1), y.loan(1, 1), y.loan(0, 6), y.loan(1, 6), y.count(19));
        Check.equal(Check.pages(y), "322221133");
    }

    // A claim that is met becomes a loan with the due time T + term.
    private static void dueTimeOfAMetClaim() {
        MemoryCourt x = behind(5, "pages 9;process p;ask p 1 1;ask p 1 99;");
        Check.all("6 104 5 5", x.loan(0, 2), x.loan(1, 2), x.loan(0, 3), x.loan(1, 3));
        x.run(1);
        Check.equal(x.loan(0, 5), 0);
        x.run(1);
        Check.all("1 0", x.loan(0, 5), x.loan(1, 5));
        // It may lie behind the end of the time.
        MemoryCourt y = behind(1999, "pages 9;process p;");
        y.ask(0, 1, 99);
        Check.all("1 2099", y.run(1), y.loan(0, 2));
    }

    // A claim that has been put off as often as patience tells is refused.
    private static void refusedAfterPatience() {
        for (int patience : new int[] {1, 2, 19, 20}) {
            MemoryCourt x = Check.court("pages 4;process p;every 1;patience " + patience + ";loan p 4 99;ask p 1 1;");
            Check.pass(x, patience - 1);
            Check.all("0 " + (patience - 1), x.claim(0, 3), x.claim(0, 4));
            x.run(1);
            Check.all("2 " + patience, x.claim(0, 3), x.claim(0, 4));
            x.run(1);
            Check.all("2 " + patience, x.claim(0, 3), x.claim(0, 4));
            // At the last hearing it can still be met.
            MemoryCourt y = Check.court("pages 4;process p;every 1;patience " + patience + ";loan p 4 99;ask p 1 1;");
            Check.pass(y, patience - 1);
            y.giveBack(0, 1);
            y.run(1);
            Check.all("1 " + (patience - 1), y.claim(0, 3), y.claim(0, 4));
        }
    }

    // ---- section 6

    // A fine can be appealed once
    private static void fineIsAppealedOnce() {
        MemoryCourt x = behind(5, "pages 9;process p;loan p 1 1;loan p 1 2;");
        Check.all("0 0 1 0", x.appeal(0), x.fine(0, 7) - x.fine(0, 5), x.fine(0, 6), x.fine(1, 6));
        Check.noState(() -> x.appeal(0));
        Check.all("-1 0", x.wouldAppeal(0), x.wouldAppeal(1));
        Check.all("0 1", x.appeal(1), x.fine(1, 6));
        Check.noState(() -> x.appeal(1));
        // An appeal that was undone was none.
        x.undo();
        Check.all("0 0 1", x.fine(1, 6), x.appeal(1), x.fine(1, 6));
    }

    // ... and only if the time is at most appeal more than that of its hearing.
    private static void appealComesInTime() {
        for (int appeal : new int[] {0, 1, 10, 98, 99}) {
            MemoryCourt x = behind(50, "pages 9;process p;every 50;appeal " + appeal + ";loan p 1 40;");
            Check.pass(x, appeal);
            Check.all("0 0 1", x.wouldAppeal(0), x.appeal(0), x.fine(0, 6));
            x.undo();
            x.run(1);
            Check.equal(x.wouldAppeal(0), -1);
            Check.noState(() -> x.appeal(0));
            Check.equal(x.fine(0, 6), 0);
        }
    }

    // The evidence is the number of ticks of its span ...: greater than the begin of the span and at most its end.
    private static void evidenceLiesInTheSpan() {
        // The spans are 3 to 8 and 8 to 16; one tick is stalled.
        int[] tick = {3, 4, 5, 8, 9, 16, 17}, first = {0, 1, 1, 1, 0, 0, 0}, second = {0, 0, 0, 0, 1, 1, 0};
        for (int i = 0; i < tick.length; i++) {
            MemoryCourt x = behind(tick[i] - 1, "pages 9;process p;process q;every 8;loan p 1 3;loan q 1 3;");
            x.stall(0, 1);
            x.run(20 - tick[i]);
            Check.all(first[i] + " " + second[i] + " 0 0", x.evidence(0), x.evidence(2), x.evidence(1), x.evidence(3));
            Check.all("0 2 1", x.fine(0, 0), x.fine(2, 0) + 2, x.fine(1, 0));
        }
        // No tick and each tick of it.
        Check.equal(behind(8, "pages 9;process p;every 8;loan p 1 3;").evidence(0), 0);
        MemoryCourt all = Check.court("pages 9;process p;every 8;loan p 1 3;");
        all.stall(0, 99);
        all.run(8);
        Check.equal(all.evidence(0), 5);
    }

    // The fine becomes fine * (length - evidence) / length, rounded up.
    private static void appealedFineIsRoundedUp() {
        // The span goes from 2 to 7; fines of 5, 4 and 1, with 0 to 5 ticks of evidence.
        int[] base = {30, 26, 6};
        int[][] due = {{5, 4, 3, 2, 1, 0}, {4, 4, 3, 2, 1, 0}, {1, 1, 1, 1, 1, 0}};
        for (int i = 0; i < base.length; i++) {
            for (int evidence = 0; evidence <= 5; evidence++) {
                MemoryCourt x = behind(2, "pages 9;process p;every 7;base " + base[i] + ";loan p 3 2;");
                x.stall(0, evidence);
                x.run(5);
                int fine = due[i][0], less = fine - due[i][evidence];
                Check.all(fine + " " + fine + " " + less, x.fine(0, 5), x.process(0, 1), x.wouldAppeal(0));
                Check.all(less + " " + due[i][evidence] + " " + fine, x.appeal(0), x.fine(0, 5), x.fine(0, 7));
                Check.all(fine - less + " " + (15 - 3 * evidence), x.process(0, 1), x.process(0, 0));
            }
        }
    }

    // The bar of the process becomes less by what the fine became less ... at least 0.
    private static void appealedBarIsAtLeast0() {
        // The bar is 5 at 7, and 1 less in each tick; the fine becomes 3 less.
        int[] ticks = {0, 1, 2, 3, 4, 5, 6}, due = {2, 1, 0, 0, 0, 0, 0};
        for (int i = 0; i < ticks.length; i++) {
            MemoryCourt x = behind(2, "pages 9;process p;process q;every 7;base 30;loan p 3 2;loan q 3 2;");
            x.stall(0, 3);
            x.run(5);
            x.giveBack(0, 3);
            x.giveBack(1, 3);
            Check.pass(x, ticks[i]);
            Check.all("3 " + due[i] + " " + (5 - Math.min(5, ticks[i])), x.appeal(0), x.process(0, 1), x.process(1, 1));
        }
        // From a bar of 999 the whole of it is taken, although it was cut off there.
        MemoryCourt y = Check.court("pages 64;process p;every 50;base 100;loan p 12 1;loan p 12 1;loan p 12 1;loan p 12 1;loan p 12 1;");
        y.stall(0, 99);
        y.run(50);
        Check.all("999 200 799", y.process(0, 1), y.appeal(0), y.process(0, 1));
    }

    // The bar of the process becomes less ...: that of this process, by this fine, whichever number it has.
    private static void appealIsOfItsFineAndItsProcess() {
        // At 22 the fines 40 of p and 41 of q are 2 each, as all before but the first two; q was stalled in this tick.
        String text = "pages 4;process p;process q;every 1;base 100;fade 99;appeal 99;order small;loan p 1 1;loan q 1 1;";
        MemoryCourt x = behind(21, text);
        x.stall(1, 1);
        x.run(1);
        Check.all("42 21 21 21 21", x.count(18), x.process(0, 0), x.process(0, 1), x.process(1, 0), x.process(1, 1));
        Check.all("0 1 0 2", x.evidence(40), x.evidence(41), x.wouldAppeal(40), x.wouldAppeal(41));
        Check.equal(x.appeal(41), 2);
        Check.all("21 21 20 19", x.process(0, 0), x.process(0, 1), x.process(1, 0), x.process(1, 1));
        Check.equal(Check.fineOf(x, 41), "1 1 1 21 22 0 1 2");
        Check.equal(Check.fineOf(x, 40), "0 0 1 21 22 2 0 2");
        Check.equal(Check.fineOf(x, 39), "1 1 1 20 21 2 0 2");
        for (int fine = 2; fine <= 40; fine++) {
            Check.all("0 true", x.fine(fine, 6), x.fine(fine, 5) == x.fine(fine, 7));
        }
        Check.noState(() -> x.appeal(41));
        // Two fines of p, one behind the other; those of q between them stay.
        MemoryCourt y = behind(20, text);
        y.stall(0, 2);
        y.run(1);
        Check.all("40 1 0 2", y.count(18), y.evidence(38), y.evidence(39), y.appeal(38));
        y.run(1);
        Check.all("1 2 1 0", y.fine(38, 6), y.appeal(40), y.fine(40, 6), y.fine(39, 6));
        // The bar: 20 at 21, 2 less; 1 less and 2 more at 22, and 2 less again.
        Check.all("19 17 21 21", y.process(0, 0), y.process(0, 1), y.process(1, 0), y.process(1, 1));
    }

    // ..., the record by weight * evidence / length, rounded down; both are at least 0.
    private static void appealedRecordIsAtLeast0() {
        // The record is 15 at 7; it becomes 9 less. With fade 8 it is 7 by then, and 9 are not there.
        int[] fade = {99, 8}, before = {15, 7}, due = {6, 0};
        for (int i = 0; i < fade.length; i++) {
            MemoryCourt x = behind(2, "pages 9;process p;every 7;base 30;fade " + fade[i] + ";loan p 3 2;");
            x.stall(0, 3);
            x.run(6);
            Check.all(before[i] + " 3 " + due[i], x.process(0, 0), x.appeal(0), x.process(0, 0));
        }
        // To just 0, and from a record of 999, which was cut off there.
        MemoryCourt y = Check.court("pages 64;process p;every 50;base 100;fade 99;loan p 12 1;loan p 12 1;");
        y.stall(0, 99);
        y.run(50);
        Check.all("999 200 411", y.process(0, 0), y.appeal(0), y.process(0, 0));
        Check.all("200 0", y.appeal(1), y.process(0, 0));
        MemoryCourt z = Check.court("pages 9;process p;every 7;fade 99;loan p 3 2;");
        z.stall(0, 7);
        z.run(7);
        Check.all("15 2 0", z.process(0, 0), z.appeal(0), z.process(0, 0));
    }
}
