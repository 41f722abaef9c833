/** Promises 7 and 9 to 26: what there is. */
public final class ViewTest {
    // Three broken loans at the time 5: loan 0 and 3 of p, loan 1 of q; loan 2 of r is kept.
    private static final String BUSY = "pages 20;process p;process q;process r;every 5;base 50;fade 99;patience 2;appeal 3;"
        + "loan p 3 4;loan q 2 1;loan r 4 30;loan p 1 4;ask r 5 9;ask r 9 9;ask p 1 1;";

    public static void main(String[] args) {
        promise7();
        promise9();
        promise10();
        promises11To14();
        promise15();
        promise16();
        promise17();
        promise18And19();
        promise20();
        promises21To23();
        promise24();
        promise25();
        promise26();
        Check.finish("ViewTest");
    }

    private static void promise7() {
        Check.at("promise 7");
        MemoryCourt x = Check.court(BUSY);
        Check.equal(Check.counts(x), "20 3 0 0 5 50 99 2 3 10 4 4 0 3 3 0 0 0 0 0 0");
        x.run(5);
        // Claim 0 gets 5 of the 10 free pages; claim 1 lacks 4 and gets 2 of loan 1 and 2 of loan 0.
        Check.equal(Check.counts(x), "20 3 5 0 5 50 99 2 3 0 6 5 2 3 1 2 0 1 3 4 1");
        x.run(5);
        Check.equal(Check.counts(x), "20 3 10 0 5 50 99 2 3 0 6 5 2 3 0 2 1 2 5 4 2");
        Check.all("-1 -1 -1 -1", x.count(21), x.count(-1), x.count(Integer.MAX_VALUE), x.count(Integer.MIN_VALUE));
        x.withdraw(x.ask(0, 1, 1));
        Check.equal(Check.counts(x), "20 3 10 0 5 50 99 2 3 0 6 5 2 4 0 2 1 2 5 4 4");
    }

    private static void promise9() {
        Check.at("promise 9");
        MemoryCourt x = Check.court(BUSY);
        x.stall(1, 7);
        Check.equal(Check.processOf(x, 0), "0 0 0 4 2 0 1 0 0 0");
        Check.equal(Check.processOf(x, 1), "0 0 7 2 1 0 0 0 0 0");
        Check.equal(Check.processOf(x, 2), "0 0 0 4 1 0 2 0 0 0");
        x.run(5);
        // p: weight 3, fine 3 * 50 / 100 = 2, then weight 1, fine 1 * 53 / 100 = 1; q: 8 * 50 / 100 = 4.
        Check.equal(Check.processOf(x, 0), "4 3 0 2 2 2 1 0 2 0");
        Check.equal(Check.processOf(x, 1), "8 4 2 0 0 0 0 0 1 5");
        Check.equal(Check.processOf(x, 2), "0 0 0 18 3 0 0 2 0 0");
        x.run(3);
        Check.equal(Check.processOf(x, 1), "8 1 0 0 0 0 0 0 1 7");
        Check.noIndex(() -> x.process(3, 0));
        Check.noIndex(() -> x.process(-1, 0));
        Check.noIndex(() -> x.process(0, 10));
        Check.noIndex(() -> x.process(0, -1));
        Check.noIndex(() -> new MemoryCourt().process(0, 0));
    }

    private static void promise10() {
        Check.at("promise 10");
        MemoryCourt x = Check.court(BUSY);
        x.run(5);
        Check.equal(Check.loanOf(x, 0), "0 1 4 0 -1 1 2 3");
        Check.equal(Check.loanOf(x, 1), "1 0 1 0 -1 0 2 2");
        Check.equal(Check.loanOf(x, 2), "2 4 30 0 -1 0 0 4");
        Check.equal(Check.loanOf(x, 3), "0 1 4 0 -1 1 0 1");
        Check.equal(Check.loanOf(x, 4), "2 5 14 5 0 0 0 5");
        Check.equal(Check.loanOf(x, 5), "2 9 14 5 1 0 0 9");
        Check.noIndex(() -> x.loan(6, 0));
        Check.noIndex(() -> x.loan(-1, 0));
        Check.noIndex(() -> x.loan(0, 8));
        Check.noIndex(() -> x.loan(0, -1));
        // Broken only behind the due time.
        MemoryCourt y = Check.court("pages 9;process p;loan p 2 3;every 50;");
        y.run(3);
        Check.all("0 0", y.loan(0, 5), y.count(12));
        y.run(1);
        Check.all("1 1", y.loan(0, 5), y.count(12));
        y.giveBack(0, 1);
        Check.equal(Check.loanOf(y, 0), "0 1 3 0 -1 1 0 2");
        y.giveBack(0, 1);
        Check.equal(Check.loanOf(y, 0), "0 0 3 0 -1 0 0 2");
    }

    private static void promises11To14() {
        Check.at("promises 11 to 14");
        MemoryCourt x = Check.court("pages 10;process p;every 1;loan p 2 50;loan p 1 50;loan p 2 50;loan p 1 50;");
        Check.all("0 0 1 2 2 3 -1 -1 -1 -1", x.page(0), x.page(1), x.page(2), x.page(3), x.page(4), x.page(5), x.page(6),
            x.page(7), x.page(8), x.page(9));
        Check.equal(x.longestFree(), 4);
        x.giveBack(0, 1);
        x.giveBack(2, 2);
        x.ask(0, 5, 50);
        x.run(1);
        // Loan 4 gets the free pages with the smallest numbers: 1, 3, 4, 6, 7.
        Check.all("0 4 1 4 4 3 4 4 -1 -1", x.page(0), x.page(1), x.page(2), x.page(3), x.page(4), x.page(5), x.page(6),
            x.page(7), x.page(8), x.page(9));
        Check.all("1 3 4 6 7", x.pageOf(4, 0), x.pageOf(4, 1), x.pageOf(4, 2), x.pageOf(4, 3), x.pageOf(4, 4));
        Check.all("1 1 0 1 3 2", x.pieces(0), x.pieces(1), x.pieces(2), x.pieces(3), x.pieces(4), x.longestFree());
        x.giveBack(4, 3);
        Check.all("1 3 2 5 4", x.pageOf(4, 0), x.pageOf(4, 1), x.pieces(4), x.count(9), x.longestFree());
        Check.noElement(() -> x.pageOf(4, 2));
        Check.noElement(() -> x.pageOf(4, -1));
        Check.noElement(() -> x.pageOf(2, 0));
        Check.noIndex(() -> x.pageOf(5, 0));
        Check.noIndex(() -> x.pageOf(-1, -1));
        Check.noIndex(() -> x.pieces(5));
        Check.noIndex(() -> x.pieces(-1));
        Check.noIndex(() -> x.page(10));
        Check.noIndex(() -> x.page(-1));
        MemoryCourt full = Check.court("pages 64;process p;loan p 64 9;");
        Check.all("0 0 63 1", full.longestFree(), full.page(63), full.pageOf(0, 63), full.pieces(0));
        Check.noIndex(() -> full.page(64));
        Check.noElement(() -> full.pageOf(0, 64));
        full.giveBack(0, 1);
        Check.all("1 -1 0", full.longestFree(), full.page(63), full.page(62));
    }

    private static void promise15() {
        Check.at("promise 15");
        MemoryCourt x = Check.court(BUSY);
        Check.equal(Check.claimOf(x, 1), "2 9 9 0 0 -1 0");
        x.run(5);
        Check.equal(Check.claimOf(x, 0), "2 5 9 1 0 4 0");
        Check.equal(Check.claimOf(x, 1), "2 9 9 1 0 5 0");
        Check.equal(Check.claimOf(x, 2), "0 1 1 0 1 -1 0");
        x.run(2);
        Check.equal(x.ask(1, 20, 99), 3);
        Check.equal(Check.claimOf(x, 3), "1 20 99 0 0 -1 7");
        x.run(3);
        Check.equal(Check.claimOf(x, 2), "0 1 1 2 2 -1 0");
        x.withdraw(3);
        Check.equal(Check.claimOf(x, 3), "1 20 99 3 1 -1 7");
        Check.noIndex(() -> x.claim(4, 0));
        Check.noIndex(() -> x.claim(-1, 0));
        Check.noIndex(() -> x.claim(0, 7));
        Check.noIndex(() -> x.claim(0, -1));
    }

    private static String line(MemoryCourt x) {
        StringBuilder b = new StringBuilder();
        for (int i = 0; i < x.count(14); i++) {
            b.append(x.waiting(i));
        }
        return b.toString();
    }

    private static void promise16() {
        Check.at("promise 16");
        // p has the record 4, q the record 1, r the record 0 from the time 5 on.
        MemoryCourt x = Check.court("pages 9;process p;process q;process r;every 5;base 100;loan p 2 3;loan q 1 4;");
        Check.noElement(() -> x.waiting(0));
        x.run(5);
        Check.all("4 1 0", x.process(0, 0), x.process(1, 0), x.process(2, 0));
        x.ask(0, 3, 1);
        x.ask(1, 3, 1);
        x.ask(2, 5, 1);
        x.ask(1, 2, 1);
        x.ask(0, 2, 1);
        x.ask(2, 3, 1);
        Check.equal(line(x), "012345");
        x.setOrder(MemoryCourt.SMALL);
        Check.equal(line(x), "340152");
        x.setOrder(MemoryCourt.CLEAN);
        Check.equal(line(x), "251304");
        x.withdraw(5);
        Check.equal(line(x), "21304");
        Check.noElement(() -> x.waiting(5));
        Check.noElement(() -> x.waiting(-1));
        Check.noElement(() -> x.waiting(Integer.MAX_VALUE));
    }

    private static void promise17() {
        Check.at("promise 17");
        MemoryCourt x = Check.court("pages 9;process p;process q;every 5;base 33;loan p 2 3;loan q 3 4;");
        x.run(10);
        // Hearing at 5: weights 4 and 3, fines 1.32 and 0.99 rounded up; at 10 all five ticks count.
        Check.equal(Check.fineOf(x, 0), "0 0 4 3 5 2 0 2");
        Check.equal(Check.fineOf(x, 1), "1 1 3 4 5 1 0 1");
        Check.equal(Check.fineOf(x, 2), "0 0 10 5 10 4 0 4");
        Check.equal(Check.fineOf(x, 3), "1 1 15 5 10 6 0 6");
        x.stall(0, 9);
        Check.noElement(() -> x.fine(4, 0));
        Check.noElement(() -> x.fine(-1, 0));
        Check.noArgument(() -> x.fine(0, 8));
        Check.noArgument(() -> x.fine(0, -1));
        Check.noArgument(() -> x.fine(99, 8));
        // Forty are known: 42 fines at the time 105.
        x.run(95);
        Check.equal(x.count(18), 42);
        Check.noElement(() -> x.fine(1, 0));
        Check.noElement(() -> x.evidence(1));
        Check.noElement(() -> x.wouldAppeal(1));
        Check.noElement(() -> x.appeal(1));
        Check.all("0 0 10 5 10 4 0 1", Check.fineOf(x, 2).substring(0, 15), x.fine(41, 0));
        // At most 200, also when the weight tells more.
        MemoryCourt y = Check.court("pages 64;process p;every 50;base 100;loan p 64 1;");
        y.run(50);
        Check.equal(Check.fineOf(y, 0), "0 0 3136 1 50 200 0 200");
        Check.all("200 999", y.process(0, 1), y.process(0, 0));
    }

    private static void promise18And19() {
        Check.at("promises 18 and 19");
        MemoryCourt x = Check.court("pages 9;process p;process q;every 6;fade 99;loan p 2 2;loan q 1 2;");
        x.stall(0, 3);
        x.run(4);
        x.stall(0, 99);
        x.stall(1, 1);
        x.run(2);
        // p was stalled in the ticks 1, 2, 3, 5 and 6; those of the span from 2 to 6 count.
        Check.all("3 1", x.evidence(0), x.evidence(1));
        Check.all("false true true true false true true false", x.wasStalled(0, 0), x.wasStalled(0, 1), x.wasStalled(0, 2),
            x.wasStalled(0, 3), x.wasStalled(0, 4), x.wasStalled(0, 5), x.wasStalled(0, 6), x.wasStalled(0, 7));
        Check.all("false false true false", x.wasStalled(1, 1), x.wasStalled(1, 4), x.wasStalled(1, 5), x.wasStalled(1, 6));
        Check.all("false false false false", x.wasStalled(0, -1), x.wasStalled(0, Integer.MIN_VALUE),
            x.wasStalled(0, Integer.MAX_VALUE), x.wasStalled(0, 2001));
        Check.noIndex(() -> x.wasStalled(2, 1));
        Check.noIndex(() -> x.wasStalled(-1, 1));
        Check.noElement(() -> x.evidence(2));
        Check.noElement(() -> x.evidence(-1));
        x.undo();
        Check.all("false true", x.wasStalled(0, 5), x.wasStalled(0, 3));
        MemoryCourt y = Check.court("pages 9;process a;process b;process c;process d;process e;process f;process g;process h;");
        y.run(500);
        y.run(500);
        y.run(500);
        y.run(499);
        y.stall(7, 1);
        y.run(1);
        Check.all("true false false", y.wasStalled(7, 2000), y.wasStalled(6, 2000), y.wasStalled(7, 1999));
    }

    private static void promise20() {
        Check.at("promise 20");
        MemoryCourt x = Check.court("pages 9;every 7;");
        Check.equal(x.nextHearing(), 7);
        x.run(6);
        Check.equal(x.nextHearing(), 7);
        x.run(1);
        Check.equal(x.nextHearing(), 14);
        for (int i = 0; i < 3; i++) {
            x.run(500);
        }
        x.run(488);
        Check.all("1995 -1 285", x.count(2), x.nextHearing(), x.count(17));
        MemoryCourt y = Check.court("pages 9;every 50;");
        for (int i = 0; i < 3; i++) {
            y.run(500);
        }
        y.run(499);
        Check.equal(y.nextHearing(), 2000);
        y.run(1);
        Check.all("-1 40", y.nextHearing(), y.count(17));
    }

    private static void promises21To23() {
        Check.at("promises 21 to 23");
        MemoryCourt x = Check.court("pages 20;process p;process q;every 50;loan p 3 4;loan q 2 2;loan p 2 2;loan q 4 9;");
        Check.all("0 0 -1", x.shortage(), x.overdue(), x.firstBroken());
        x.ask(0, 9, 1);
        Check.equal(x.shortage(), 0);
        x.ask(1, 5, 1);
        Check.equal(x.shortage(), 5);
        x.withdraw(0);
        Check.equal(x.shortage(), 0);
        x.run(2);
        Check.all("0 -1", x.overdue(), x.firstBroken());
        x.run(1);
        Check.all("4 1", x.overdue(), x.firstBroken());
        x.run(2);
        Check.all("7 1", x.overdue(), x.firstBroken());
        x.giveBack(1, 2);
        Check.all("5 2", x.overdue(), x.firstBroken());
        x.giveBack(2, 2);
        Check.all("3 0", x.overdue(), x.firstBroken());
        x.giveBack(0, 3);
        Check.all("0 -1", x.overdue(), x.firstBroken());
        // Barred processes count for the shortage too.
        MemoryCourt y = Check.court("pages 4;process p;every 2;base 100;loan p 3 1;ask p 4 1;");
        y.run(2);
        Check.all("3 3", y.process(0, 1), y.shortage());
    }

    private static void promise24() {
        Check.at("promise 24");
        Check.equal(new MemoryCourt().worst(), -1);
        MemoryCourt x = Check.court("pages 20;process p;process q;process r;every 3;loan q 2 2;loan r 2 2;loan p 1 2;");
        Check.equal(x.worst(), -1);
        x.run(3);
        Check.all("1 1 2 2", x.worst(), x.process(0, 0), x.process(1, 0), x.process(2, 0));
        x.giveBack(0, 2);
        x.run(3);
        Check.equal(x.worst(), 2);
    }

    private static void promise25() {
        Check.at("promise 25");
        MemoryCourt x = Check.court("pages 20;process p;every 50;loan p 1 1;loan p 2 2;loan p 3 2;loan p 1 9;");
        x.run(1);
        Check.equal(x.meanLate(), 0.0);
        x.run(8);
        Check.equal(x.meanLate(), 22.0 / 3.0);
        x.run(1);
        Check.equal(x.meanLate(), 26.0 / 4.0);
        x.giveBack(0, 1);
        Check.equal(x.meanLate(), 17.0 / 3.0);
    }

    private static void promise26() {
        Check.at("promise 26");
        MemoryCourt x = Check.court("pages 9;process p;every 1;patience 1;ask p 4 9;ask p 4 9;ask p 4 9;");
        Check.equal(x.metShare(), 0.0f);
        x.withdraw(x.ask(0, 1, 1));
        Check.equal(x.metShare(), 0.0f);
        x.run(1);
        Check.equal(x.metShare(), 2.0f / 3.0f);
        x.ask(0, 9, 1);
        x.run(1);
        Check.equal(x.metShare(), 0.5f);
    }
}
