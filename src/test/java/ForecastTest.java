/** Promises 36 to 44: forecasts, which change nothing. */
public final class ForecastTest {
    public static void main(String[] args) {
        promises36And37();
        promise38();
        promise39();
        promise40();
        promise41();
        promise42();
        promise43();
        promise44();
        atTheEndOfTime();
        nothingChanges();
        Check.finish("ForecastTest");
    }

    private static void promises36And37() {
        Check.at("promises 36 and 37");
        // Claim 1 lacks until the loan is broken at 9; claim 2 is refused at the third hearing.
        MemoryCourt x = Check.court("pages 9;process p;process q;every 3;loan p 7 8;ask q 2 50;ask q 5 50;ask q 9 9;");
        Check.all("3 -1", x.metIn(0, 3), x.metIn(0, 2));
        Check.all("9 -1", x.metIn(1, 500), x.metIn(1, 8));
        Check.all("-1 9 -1", x.metIn(2, 500), x.refusedIn(2, 9), x.refusedIn(2, 8));
        Check.all("-1 -1", x.refusedIn(0, 500), x.refusedIn(1, 500));
        Check.equal(x.run(4), 1);
        Check.all("-1 -1 5 5", x.metIn(0, 9), x.refusedIn(0, 9), x.metIn(1, 5), x.refusedIn(2, 5));
        x.withdraw(1);
        Check.all("-1 -1", x.metIn(1, 500), x.refusedIn(1, 500));
        x.run(5);
        Check.all("2 -1 -1", x.claim(2, 3), x.metIn(2, 500), x.refusedIn(2, 500));
        Check.noIndex(() -> x.metIn(3, 1));
        Check.noIndex(() -> x.metIn(-1, 0));
        Check.noArgument(() -> x.metIn(0, 0));
        Check.noArgument(() -> x.metIn(0, 501));
        Check.noArgument(() -> x.metIn(0, Integer.MIN_VALUE));
        Check.noIndex(() -> x.refusedIn(3, 0));
        Check.noIndex(() -> x.refusedIn(-1, 1));
        Check.noArgument(() -> x.refusedIn(0, 0));
        Check.noArgument(() -> x.refusedIn(0, 501));
        // Forecasts go by the order that is set.
        MemoryCourt y = Check.court("pages 4;process p;every 1;ask p 3 9;ask p 2 9;");
        Check.all("1 -1", y.metIn(0, 50), y.metIn(1, 50));
        y.setOrder(1);
        Check.all("-1 1 3", y.metIn(0, 50), y.metIn(1, 50), y.refusedIn(0, 50));
    }

    private static void promise38() {
        Check.at("promise 38");
        MemoryCourt x = Check.court("pages 30;process p;process q;every 10;base 10;fade 15;loan p 5 2;loan q 5 9;loan p 4 5;loan p 1 10;");
        Check.all("4 1 10 0", x.wouldFine(0), x.wouldFine(1), x.wouldFine(2), x.wouldFine(3));
        x.run(1);
        x.giveBack(0, 5);
        // The record is smaller at the third loan then.
        Check.all("0 1 2 0", x.wouldFine(0), x.wouldFine(1), x.wouldFine(2), x.wouldFine(3));
        x.run(9);
        // The record of 20 fades to 10 before the next hearing.
        Check.all("20 0 8 6", x.process(0, 0), x.wouldFine(0), x.wouldFine(2), x.wouldFine(3));
        Check.noIndex(() -> x.wouldFine(4));
        Check.noIndex(() -> x.wouldFine(-1));
        // A fine of its own hearing only, and at most 200.
        MemoryCourt y = Check.court("pages 64;process p;every 50;base 100;loan p 64 1;");
        Check.equal(y.wouldFine(0), 200);
        y.run(50);
        y.giveBack(0, 64);
        Check.equal(y.wouldFine(0), 0);
        // More fines in a hearing than are known.
        MemoryCourt z = Check.court("pages 64;process p;process q;every 1;base 100;fade 99;loan p1 1;loan q1 1;");
        for (int i = 0; i < 50; i++) {
            z.ask(1, 1, 1);
        }
        Check.equal(z.run(1), 50);
        Check.all("1 1 0", z.wouldFine(0), z.wouldFine(1), z.wouldFine(2));
        z.run(1);
        Check.all("2 2 2 2", z.wouldFine(0), z.wouldFine(1), z.wouldFine(2), z.wouldFine(51));
        Check.all("2 102", z.wouldPay(0), z.wouldPay(1));
        z.run(1);
        Check.equal(z.count(18), 54);
    }

    private static void promise39() {
        Check.at("promise 39");
        MemoryCourt x = Check.court("pages 30;process p;process q;process r;every 10;base 10;loan p 5 2;loan q 5 9;loan p 4 5;");
        Check.all("14 1 0", x.wouldPay(0), x.wouldPay(1), x.wouldPay(2));
        x.run(10);
        Check.all("14 1 0", x.process(0, 1), x.process(1, 1), x.process(2, 1));
        x.giveBack(0, 5);
        x.giveBack(1, 5);
        Check.all("0 0", x.wouldPay(1), x.wouldPay(2));
        Check.equal(x.wouldPay(0), x.wouldFine(2));
        Check.noIndex(() -> x.wouldPay(3));
        Check.noIndex(() -> x.wouldPay(-1));
    }

    private static void promise40() {
        Check.at("promise 40");
        MemoryCourt x = Check.court("pages 9;process p;process q;every 4;loan p 7 6;ask q 2 5;ask q 3 5;");
        Check.all("2 0 0 0", x.freeIn(3), x.freeIn(4), x.freeIn(8), x.freeIn(500));
        x.giveBack(0, 4);
        Check.all("6 1", x.freeIn(1), x.freeIn(4));
        Check.noArgument(() -> x.freeIn(0));
        Check.noArgument(() -> x.freeIn(501));
        Check.noArgument(() -> x.freeIn(Integer.MIN_VALUE));
    }

    private static void promise41() {
        Check.at("promise 41");
        MemoryCourt x = Check.court("pages 9;process p;process q;every 4;base 100;fade 6;loan p 3 2;ask q 8 9;");
        Check.all("0 0 3", x.processIn(0, 3, 0), x.processIn(0, 3, 1), x.processIn(0, 3, 2));
        Check.all("6 6 1", x.processIn(0, 4, 0), x.processIn(0, 4, 1), x.processIn(0, 4, 2));
        Check.all("3 4 1", x.processIn(0, 6, 0), x.processIn(0, 6, 1), x.processIn(0, 6, 2));
        Check.all("0 0 8", x.processIn(1, 4, 0), x.processIn(1, 4, 1), x.processIn(1, 4, 2));
        Check.noIndex(() -> x.processIn(2, 1, 0));
        Check.noIndex(() -> x.processIn(-1, 0, 9));
        Check.noArgument(() -> x.processIn(0, 0, 0));
        Check.noArgument(() -> x.processIn(0, 501, 0));
        Check.noArgument(() -> x.processIn(0, 1, 3));
        Check.noArgument(() -> x.processIn(0, 1, -1));
    }

    private static void promise42() {
        Check.at("promise 42");
        // In the order of the numbers one claim is met, with the small ones first two.
        MemoryCourt x = Check.court("pages 6;process p;every 3;ask p 5 50;ask p 3 50;ask p 2 50;");
        Check.all("0 1 1", x.bestOrder(2), x.bestOrder(3), x.bestOrder(500));
        x.setOrder(2);
        Check.all("1 2", x.bestOrder(3), x.count(3));
        // p has a record; the short loan of q can be taken back from, the long one of p cannot.
        MemoryCourt y = Check.court("pages 6;process p;process q;every 3;base 1;patience 9;loan p 1 2;");
        y.run(3);
        y.giveBack(0, 1);
        y.ask(0, 2, 90);
        y.ask(1, 5, 1);
        Check.all("2 0 0", y.bestOrder(6), y.bestOrder(5), y.bestOrder(2));
        // In a tie the smallest one.
        Check.equal(new MemoryCourt().bestOrder(1), 0);
        Check.noArgument(() -> y.bestOrder(0));
        Check.noArgument(() -> y.bestOrder(501));
    }

    private static void promise43() {
        Check.at("promise 43");
        MemoryCourt x = Check.court("pages 9;process p;process q;every 3;loan p 5 50;loan q 2 50;ask p 2 9;ask q 3 9;ask p 9 9;");
        Check.all("0 0", x.helps(0, 0), x.helps(1, 0));
        Check.all("3 -1", x.helps(0, 1), x.helps(1, 1));
        Check.all("-1 -1", x.helps(0, 2), x.helps(1, 2));
        Check.all("0 5", x.count(20), x.loan(0, 1));
        // Giving back can lift a bar: without the loan p is not fined.
        MemoryCourt y = Check.court("pages 9;process p;every 3;loan p 4 2;loan p 1 2;ask p 1 9;");
        Check.all("-1 -1", y.helps(0, 0), y.helps(1, 0));
        MemoryCourt z = Check.court("pages 9;process p;every 3;loan p 4 2;ask p 1 9;");
        Check.equal(z.helps(0, 0), 4);
        z.giveBack(0, 4);
        Check.equal(z.helps(0, 0), 0);
        // More is not always better: claim 0 takes the pages when all are given back.
        MemoryCourt w = Check.court("pages 6;process p;process q;every 3;loan p 6 50;ask q 4 9;ask q 2 9;");
        Check.all("4 2", w.helps(0, 0), w.helps(0, 1));
        MemoryCourt v = Check.court("pages 6;process p;process q;every 3;loan p 4 50;ask q 6 9;ask q 2 9;");
        Check.all("4 0", v.helps(0, 0), v.helps(0, 1));
        // It must be met at the next hearing, and wait.
        MemoryCourt u = Check.court("pages 6;process p;process q;every 3;loan p 6 4;ask q 1 9;ask q 1 9;");
        Check.all("1 6", u.helps(0, 0), u.metIn(0, 6));
        u.withdraw(0);
        Check.all("-1 1", u.helps(0, 0), u.helps(0, 1));
        u.run(1);
        Check.equal(u.helps(0, 1), 1);
        u.giveBack(0, 2);
        u.run(2);
        Check.all("1 -1", u.claim(1, 3), u.helps(0, 1));
        Check.noIndex(() -> u.helps(2, 0));
        Check.noIndex(() -> u.helps(-1, 0));
        Check.noIndex(() -> u.helps(0, 2));
        Check.noIndex(() -> u.helps(0, -1));
        // Pages of a broken loan that are given back are not there to be taken back.
        MemoryCourt t = Check.court("pages 6;process p;process q;every 3;loan p 6 2;ask q 5 9;");
        Check.equal(t.helps(0, 0), 0);
    }

    private static void promise44() {
        Check.at("promise 44");
        MemoryCourt x = Check.court("pages 9;process p;process q;every 7;base 30;appeal 4;fade 99;loan p 3 2;loan q 1 2;");
        x.stall(0, 4);
        x.run(7);
        Check.all("2 0 5 0", x.wouldAppeal(0), x.wouldAppeal(1), x.fine(0, 5), x.fine(0, 6));
        x.appeal(0);
        Check.all("-1 0", x.wouldAppeal(0), x.wouldAppeal(1));
        x.run(4);
        Check.equal(x.wouldAppeal(1), 0);
        x.run(1);
        Check.equal(x.wouldAppeal(1), -1);
        Check.noElement(() -> x.wouldAppeal(2));
        Check.noElement(() -> x.wouldAppeal(-1));
        Check.noElement(() -> x.wouldAppeal(Integer.MAX_VALUE));
    }

    private static void atTheEndOfTime() {
        Check.at("forecasts at the time 2000");
        MemoryCourt x = Check.court("pages 9;process p;process q;every 40;base 100;fade 99;loan p 3 90;");
        for (int i = 0; i < 3; i++) {
            x.run(500);
        }
        x.run(497);
        x.ask(1, 6, 9);
        x.ask(1, 9, 9);
        Check.all("3 -1 3", x.metIn(0, 500), x.refusedIn(1, 500), x.metIn(0, 3));
        Check.all("0 3 0", x.freeIn(500), x.processIn(0, 500, 2), x.helps(0, 0));
        Check.all("200 200", x.wouldFine(0), x.wouldPay(0));
        x.giveBack(0, 2);
        Check.all("0 0 2", x.bestOrder(500), x.bestOrder(2), x.freeIn(500));
        x.run(3);
        Check.all("-1 -1 -1 0 0", x.metIn(1, 500), x.refusedIn(1, 500), x.helps(0, 1), x.wouldFine(0), x.wouldPay(0));
        Check.all("2 1 0", x.freeIn(1), x.processIn(0, 500, 2), x.bestOrder(500));
        Check.equal(x.processIn(0, 500, 1), x.process(0, 1));
        // Without a hearing left, but with time left.
        MemoryCourt y = Check.court("pages 9;process p;every 48;loan p 3 90;");
        for (int i = 0; i < 3; i++) {
            y.run(500);
        }
        y.run(490);
        y.ask(0, 1, 1);
        Check.all("-1 0 0 -1", y.nextHearing(), y.wouldFine(0), y.wouldPay(0), y.helps(0, 0));
        Check.all("-1 -1 6", y.metIn(0, 500), y.refusedIn(0, 500), y.freeIn(500));
    }

    private static void nothingChanges() {
        Check.at("forecasts change nothing");
        MemoryCourt x = Check.court("pages 9;process p;process q;every 3;loan p 3 2;loan q 1 40;ask q 7 9;ask q 1 9;");
        x.stall(0, 9);
        x.run(2);
        String before = Check.counts(x) + Check.processOf(x, 0) + Check.loanOf(x, 0) + Check.claimOf(x, 0) + Check.claimOf(x, 1);
        for (int i = 0; i < 2; i++) {
            x.metIn(0, 500);
            x.refusedIn(1, 500);
            x.wouldFine(0);
            x.wouldPay(0);
            x.freeIn(500);
            x.processIn(0, 500, 0);
            x.bestOrder(500);
            x.helps(1, 0);
        }
        Check.equal(Check.counts(x) + Check.processOf(x, 0) + Check.loanOf(x, 0) + Check.claimOf(x, 0) + Check.claimOf(x, 1), before);
        Check.all("false -1 0", x.wasStalled(0, 3), x.page(4), x.page(0));
        Check.noElement(() -> x.fine(0, 0));
    }
}
