/** Promises 27 to 35, with what the terms say of ticks, hearings, appeals and changes. */
public final class ChangeTest {
    private static final int NO_CHANGE = 8;

    public static void main(String[] args) {
        promise27();
        stepsOfATick();
        finesOfAHearing();
        claimsOfAHearing();
        takingBack();
        patience();
        promise28();
        promise29();
        promise30();
        promise31();
        promise32();
        promise33();
        promise34();
        promise35();
        Check.finish("ChangeTest");
    }

    private static void promise27() {
        Check.at("promise 27");
        MemoryCourt x = Check.court("pages 9;process p;every 2;ask p 3 9;ask p 2 9;");
        Check.all("0 1", x.run(1), x.count(2));
        x.ask(0, 1, 99);
        Check.all("3 2 0", x.run(1), x.count(2), x.run(500));
        Check.noArgument(() -> x.run(0));
        Check.noArgument(() -> x.run(-1));
        Check.noArgument(() -> x.run(501));
        Check.noArgument(() -> x.run(Integer.MAX_VALUE));
        x.run(500);
        x.run(500);
        x.run(498);
        Check.equal(x.count(2), 2000);
        Check.noState(() -> x.run(1));
        Check.noState(() -> x.run(500));
        Check.noArgument(() -> x.run(501));
        Check.noArgument(() -> x.run(Integer.MIN_VALUE));
        Check.all("2000 7 1000", x.count(2), x.count(20), x.count(17));
        x.undo();
        Check.noState(() -> x.run(499));
        Check.all("1502 0 2000", x.count(2), x.run(498), x.count(2));
        // Claims of two hearings together.
        MemoryCourt y = Check.court("pages 9;process p;every 1;ask p 9 9;");
        y.ask(0, 1, 9);
        Check.equal(y.run(2), 1);
        y.giveBack(0, 1);
        Check.equal(y.run(2), 1);
    }

    private static void stepsOfATick() {
        Check.at("section 5, steps");
        // The record is 8 behind the hearing at 4; fade at 6 and 9, before the hearing at 12.
        MemoryCourt x = Check.court("pages 9;process p;every 4;base 100;fade 3;loan p 4 2;");
        x.stall(0, 2);
        x.run(4);
        Check.all("8 8 0 2", x.process(0, 0), x.process(0, 1), x.process(0, 2), x.process(0, 9));
        x.run(2);
        Check.all("4 6", x.process(0, 0), x.process(0, 1));
        x.giveBack(0, 4);
        x.run(3);
        Check.all("2 3", x.process(0, 0), x.process(0, 1));
        x.run(5);
        Check.all("1 0", x.process(0, 0), x.process(0, 1));
        x.run(1);
        Check.all("0 0", x.process(0, 0), x.process(0, 1));
        // At 3 the record fades before the hearing; a record of 3 is rounded down.
        MemoryCourt y = Check.court("pages 9;process p;every 1;base 10;fade 3;loan p 1 1;");
        y.run(2);
        Check.all("1 1", y.process(0, 0), y.process(0, 1));
        y.run(1);
        Check.all("1 1", y.process(0, 0), y.process(0, 1));
        y.run(2);
        Check.all("3 1", y.process(0, 0), y.process(0, 1));
        y.run(1);
        Check.all("2 1", y.process(0, 0), y.process(0, 1));
        // A bar of 1 is gone before the claims of the next tick's hearing.
        MemoryCourt z = Check.court("pages 9;process p;every 2;base 20;loan p 1 1;");
        z.run(2);
        Check.equal(z.process(0, 1), 1);
        z.giveBack(0, 1);
        z.ask(0, 1, 1);
        Check.equal(z.run(2), 1);
    }

    private static void finesOfAHearing() {
        Check.at("section 5, fines");
        // Two loans of p: the record of the first fine raises the second one; in between stands q.
        MemoryCourt x = Check.court("pages 30;process p;process q;every 10;base 10;loan p 5 2;loan q 5 2;loan p 4 5;loan p 1 10;");
        x.run(10);
        Check.equal(x.count(18), 3);
        Check.equal(Check.fineOf(x, 0), "0 0 40 2 10 4 0 4");
        Check.equal(Check.fineOf(x, 1), "1 1 40 2 10 4 0 4");
        Check.equal(Check.fineOf(x, 2), "0 2 20 5 10 10 0 10");
        Check.all("60 14 2", x.process(0, 0), x.process(0, 1), x.process(0, 8));
        x.run(10);
        // The records have faded to 30 and 20 by then; all fines are rounded up.
        Check.equal(Check.fineOf(x, 3), "0 0 50 10 20 20 0 20");
        Check.equal(Check.fineOf(x, 4), "1 1 50 10 20 15 0 15");
        Check.equal(Check.fineOf(x, 5), "0 2 40 10 20 36 0 36");
        Check.equal(Check.fineOf(x, 6), "0 3 10 10 20 13 0 13");
        // The cap of a fine, of the record and of the bar.
        MemoryCourt y = Check.court("pages 64;process p;every 20;base 100;fade 99;loan p 60 1;");
        y.run(20);
        Check.all("200 999 200", y.fine(0, 5), y.process(0, 0), y.process(0, 1));
        y.run(60);
        Check.all("740 999", y.process(0, 1), y.process(0, 0));
        y.run(20);
        Check.all("920 999", y.process(0, 1), y.process(0, 0));
        y.run(20);
        Check.equal(y.process(0, 1), 999);
        // A fine of exactly 200, and one that is a whole number.
        MemoryCourt z = Check.court("pages 64;process p;every 5;base 100;loan p 50 1;");
        z.run(5);
        Check.equal(z.fine(0, 5), 200);
        MemoryCourt w = Check.court("pages 64;process p;every 5;base 1;loan p 25 1;loan p 1 4;");
        w.run(5);
        Check.all("1 2", w.fine(0, 5), w.fine(1, 5));
        // A loan that was renewed behind a hearing starts its span at its due time.
        MemoryCourt v = Check.court("pages 9;process p;every 5;loan p 1 6;");
        v.run(5);
        v.renew(0, 1);
        v.run(5);
        Check.all("7 10", v.fine(0, 3), v.fine(0, 4));
    }

    private static void claimsOfAHearing() {
        Check.at("section 5, claims");
        String setup = "pages 6;process p;process q;process r;every 5;base 100;patience 9;loan p 1 3;loan q 1 4;";
        String claims = "ask p 2 9;ask q 1 9;ask r 4 9;ask r 3 9;";
        // first: p and q are barred, claim 2 gets the four free pages, claim 3 lacks three and gets none.
        MemoryCourt x = Check.court(setup + claims);
        Check.equal(x.run(5), 1);
        Check.all("0 1", x.claim(0, 3), x.claim(0, 4));
        Check.all("0 1", x.claim(1, 3), x.claim(1, 4));
        Check.all("1 0", x.claim(2, 3), x.claim(2, 4));
        Check.all("0 1", x.claim(3, 3), x.claim(3, 4));
        Check.equal(Check.pages(x), "012222");
        // small: claim 3 comes before claim 2, which takes back nothing as it lacks more than there is.
        x = Check.court(setup + "order small;" + claims);
        Check.equal(x.run(5), 1);
        Check.all("1 0 2 0", x.claim(3, 3), x.claim(2, 3), x.claim(3, 5), x.count(19));
        Check.equal(Check.pages(x), "01222.");
        // clean: the records as the claims begin, ties by number; a barred process in front only waits.
        x = Check.court("pages 9;process p;process q;process r;every 2;base 1;order clean;patience 9;"
            + "loan p 2 1;loan q 1 1;");
        x.run(2);
        x.giveBack(0, 2);
        x.giveBack(1, 1);
        Check.all("2 1 0", x.process(0, 0), x.process(1, 0), x.process(2, 0));
        x.ask(0, 1, 9);
        x.ask(1, 1, 9);
        x.ask(0, 2, 9);
        x.ask(2, 3, 9);
        x.ask(1, 1, 9);
        Check.equal(x.run(2), 5);
        Check.all("5 3 6 2 4", x.claim(0, 5), x.claim(1, 5), x.claim(2, 5), x.claim(3, 5), x.claim(4, 5));
        Check.equal(Check.pages(x), "22234566.");
        // The due time counts from the hearing.
        Check.all("13 4 3", x.loan(2, 2), x.loan(2, 3), x.loan(2, 4));
        // Claims that are equally small go by number.
        MemoryCourt y = Check.court("pages 9;process p;every 1;order small;ask p 2 9;ask p 1 9;ask p 2 9;");
        y.run(1);
        Check.equal(Check.pages(y), "01122....");
    }

    private static void takingBack() {
        Check.at("section 5, taking back");
        // Broken at 10: loan 0 (due 5), 1 (due 3), 2 (due 3), 3 (due 8); loan 4 is kept.
        String setup = "pages 16;process p;process q;every 10;loan p 3 5;loan p 2 3;loan p 4 3;loan p 2 8;loan p 3 30;";
        MemoryCourt x = Check.court(setup + "ask q 3 9;");
        x.run(10);
        // Two free, and one page of loan 1, its greatest.
        Check.equal(Check.pages(x), "0001522223344455");
        Check.all("1 0 0 0 1", x.loan(1, 6), x.loan(0, 6), x.loan(2, 6), x.loan(3, 6), x.count(19));
        Check.equal(x.loan(5, 1), 3);
        x = Check.court(setup + "ask q 11 9;");
        x.run(10);
        // All of loan 1 and 2, then loan 0.
        Check.equal(Check.pages(x), "5555555553344455");
        Check.all("2 3 4 0 9", x.loan(1, 6), x.loan(0, 6), x.loan(2, 6), x.loan(3, 6), x.count(19));
        Check.all("0 0 3 1 2", x.loan(0, 1), x.loan(0, 5), x.loan(0, 7), x.count(12), x.loan(3, 1));
        // 13 can be had, 14 cannot: then nothing is taken back.
        x = Check.court(setup + "ask q 13 9;");
        Check.all("1 11", x.run(10), x.count(19));
        x = Check.court(setup + "ask q 14 9;ask q 2 9;");
        Check.all("1 0", x.run(10), x.count(19));
        Check.equal(Check.pages(x), "0001122223344455");
        // Nothing is taken from a loan at its due time, and none from kept promises.
        x = Check.court("pages 4;process p;process q;every 5;loan p 4 5;ask q 1 9;");
        Check.all("0 0", x.run(5), x.count(19));
        Check.all("1 1", x.run(5), x.count(19));
        Check.equal(Check.pages(x), "0001");
        // A claim that asks for just what is free takes nothing back.
        x = Check.court("pages 4;process p;process q;every 5;loan p 2 1;ask q 2 9;");
        Check.all("1 0", x.run(5), x.count(19));
    }

    private static void patience() {
        Check.at("section 5, patience");
        MemoryCourt x = Check.court("pages 4;process p;process q;every 1;patience 2;loan p 4 50;ask q 1 1;");
        x.run(1);
        Check.all("0 1", x.claim(0, 3), x.claim(0, 4));
        x.run(1);
        Check.all("2 2", x.claim(0, 3), x.claim(0, 4));
        x.giveBack(0, 4);
        x.run(2);
        Check.all("2 2 -1", x.claim(0, 3), x.claim(0, 4), x.claim(0, 5));
        MemoryCourt y = Check.court("pages 4;process p;every 1;patience 1;base 100;loan p 1 1;ask p 4 1;");
        y.run(1);
        Check.equal(y.claim(0, 3), MemoryCourt.REFUSED);
        // Barred claims are put off, although the pages are there.
        y.ask(0, 1, 1);
        y.run(1);
        Check.all("2 1", y.claim(1, 3), y.claim(1, 4));
    }

    private static void promise28() {
        Check.at("promise 28");
        MemoryCourt x = Check.court("pages 9;process p;ask p 1 1;");
        Check.all("1 2", x.ask(0, 9, 99), x.ask(0, 1, 1));
        Check.equal(Check.claimOf(x, 1), "0 9 99 0 0 -1 0");
        Check.noIndex(() -> x.ask(1, 1, 1));
        Check.noIndex(() -> x.ask(-1, 0, 0));
        Check.noArgument(() -> x.ask(0, 0, 1));
        Check.noArgument(() -> x.ask(0, 10, 1));
        Check.noArgument(() -> x.ask(0, 1, 0));
        Check.noArgument(() -> x.ask(0, 1, 100));
        Check.equal(x.count(20), 2);
        for (int i = 3; i < 60; i++) {
            Check.equal(x.ask(0, 1, 1), i);
        }
        Check.noState(() -> x.ask(0, 1, 1));
        Check.noArgument(() -> x.ask(0, 0, 1));
        Check.noIndex(() -> x.ask(1, 1, 1));
        x.withdraw(3);
        Check.noState(() -> x.ask(0, 1, 1));
        x.undo();
        x.undo();
        Check.equal(x.ask(0, 1, 1), 59);
        // Sixty claims and twenty loans, all of them met.
        StringBuilder b = new StringBuilder("pages 64;process p;every 1;");
        for (int i = 0; i < 20; i++) {
            b.append("loan p1 1;");
        }
        MemoryCourt y = Check.court(b.toString());
        for (int i = 0; i < 20; i++) {
            y.giveBack(i, 1);
        }
        for (int i = 0; i < 60; i++) {
            y.ask(0, 1, 99);
        }
        Check.all("60 80 79 4", y.run(1), y.count(10), y.page(59), y.count(9));
        y.run(100);
        Check.all("60 60", y.count(12), y.count(18));
        Check.noElement(() -> y.fine(19, 0));
        Check.equal(y.fine(20, 1), 40);
    }

    private static void promise29() {
        Check.at("promise 29");
        MemoryCourt x = Check.court("pages 4;process p;process q;every 1;loan p 4 90;ask q 1 1;ask q 2 1;ask q 3 1;");
        x.run(2);
        Check.all("2 3 2", x.withdraw(1), x.claim(1, 3), x.claim(1, 4));
        Check.noState(() -> x.withdraw(1));
        x.run(1);
        Check.all("2 2 3", x.claim(0, 3), x.claim(1, 4), x.claim(1, 3));
        Check.noState(() -> x.withdraw(0));
        x.ask(0, 1, 1);
        Check.equal(x.withdraw(3), 0);
        x.giveBack(0, 4);
        x.ask(1, 1, 1);
        x.run(1);
        Check.noState(() -> x.withdraw(4));
        Check.noIndex(() -> x.withdraw(5));
        Check.noIndex(() -> x.withdraw(-1));
    }

    private static void promise30() {
        Check.at("promise 30");
        MemoryCourt x = Check.court("pages 9;process p;loan p 2 9;loan p 4 9;");
        Check.all("3 00111....", x.giveBack(1, 1), Check.pages(x));
        Check.all("1 001......", x.giveBack(1, 2), Check.pages(x));
        Check.noArgument(() -> x.giveBack(1, 2));
        Check.noArgument(() -> x.giveBack(1, 0));
        Check.noArgument(() -> x.giveBack(1, -1));
        Check.noArgument(() -> x.giveBack(1, Integer.MAX_VALUE));
        Check.all("0 00.......", x.giveBack(1, 1), Check.pages(x));
        Check.noArgument(() -> x.giveBack(1, 1));
        Check.noArgument(() -> x.giveBack(1, 0));
        Check.noIndex(() -> x.giveBack(2, 1));
        Check.noIndex(() -> x.giveBack(-1, 0));
        Check.all("0 4 0", x.loan(1, 6), x.loan(1, 7), x.count(19));
        // Pages of other loans that lie above stay.
        Check.all("0 ......... 9", x.giveBack(0, 2), Check.pages(x), x.count(9));
    }

    private static void promise31() {
        Check.at("promise 31");
        String setup = "pages 9;process p;process q;every 5;fade 7;loan p 2 4;loan p 1 9;loan q 1 5;";
        MemoryCourt x = Check.court(setup);
        Check.all("103 103", x.renew(0, 99), x.loan(0, 2));
        Check.equal(x.renew(0, 1), 104);
        Check.noArgument(() -> x.renew(0, 0));
        Check.noArgument(() -> x.renew(0, 100));
        Check.noArgument(() -> x.renew(0, -1));
        Check.noIndex(() -> x.renew(3, 1));
        Check.noIndex(() -> x.renew(-1, 0));
        // A claim of the same process does not hinder, one of another process does.
        x.ask(0, 1, 1);
        Check.equal(x.renew(0, 1), 105);
        Check.noState(() -> x.renew(2, 1));
        Check.noArgument(() -> x.renew(2, 0));
        x.withdraw(0);
        Check.equal(x.renew(2, 1), 6);
        // Not open.
        x.giveBack(1, 1);
        Check.noState(() -> x.renew(1, 1));
        // Broken, which is later than due.
        MemoryCourt y = Check.court(setup);
        y.run(4);
        Check.equal(y.renew(0, 1), 5);
        y.run(1);
        Check.equal(y.renew(0, 1), 6);
        y.run(2);
        Check.noState(() -> y.renew(0, 1));
        Check.equal(y.renew(1, 1), 10);
        // A record above 0 hinders all loans of the process, until it has faded.
        y.run(3);
        y.giveBack(0, 2);
        Check.equal(y.process(0, 0), 8);
        Check.noState(() -> y.renew(1, 90));
        y.undo();
        y.undo();
        Check.equal(y.renew(1, 90), 100);
        y.run(3);
        y.giveBack(0, 2);
        Check.noState(() -> y.renew(1, 1));
        y.run(18);
        Check.equal(y.process(0, 0), 1);
        Check.noState(() -> y.renew(1, 1));
        y.run(7);
        Check.all("0 101", y.process(0, 0), y.renew(1, 1));
    }

    private static void promise32() {
        Check.at("promise 32");
        MemoryCourt x = Check.court("pages 9;process p;process q;");
        Check.all("0 99 99 0", x.stall(0, 99), x.process(0, 2), x.stall(0, 2), x.stall(1, 0));
        x.run(1);
        Check.all("1 1 0 0", x.process(0, 2), x.process(0, 9), x.process(1, 2), x.process(1, 9));
        Check.equal(x.stall(0, 0), 1);
        x.run(1);
        Check.all("0 1", x.process(0, 2), x.process(0, 9));
        Check.noArgument(() -> x.stall(0, -1));
        Check.noArgument(() -> x.stall(0, 100));
        Check.noIndex(() -> x.stall(2, 0));
        Check.noIndex(() -> x.stall(-1, 100));
        Check.equal(x.count(20), 6);
    }

    private static void promise33() {
        Check.at("promise 33");
        MemoryCourt x = Check.court("pages 9;process p;process q;every 7;base 30;appeal 4;fade 99;loan p 3 2;loan q 1 2;");
        x.stall(0, 4);
        x.run(7);
        // Weight 15, fine 4.5 and so 5; two of five ticks are evidence: 5 * 3 / 5 = 3.
        Check.all("0 0 15 2 7 5 0 5|2", Check.fineOf(x, 0) + "|" + x.evidence(0));
        Check.all("15 5", x.process(0, 0), x.process(0, 1));
        Check.equal(x.appeal(0), 2);
        Check.equal(Check.fineOf(x, 0), "0 0 15 2 7 3 1 5");
        Check.all("9 3", x.process(0, 0), x.process(0, 1));
        Check.noState(() -> x.appeal(0));
        // Without evidence it becomes nothing less, and cannot be appealed again.
        Check.all("0 2 1", x.appeal(1), x.fine(1, 5), x.fine(1, 6));
        Check.noState(() -> x.appeal(1));
        Check.noElement(() -> x.appeal(2));
        Check.noElement(() -> x.appeal(-1));
        Check.equal(x.count(20), 4);
        x.undo();
        Check.all("0 0", x.fine(1, 6), x.appeal(1));
        // The last time for an appeal, and the first one at which it is too late.
        x.undo();
        x.run(4);
        Check.equal(x.appeal(1), 0);
        x.undo();
        x.run(1);
        Check.noState(() -> x.appeal(1));
        // Neither the record nor the bar becomes less than 0.
        MemoryCourt y = Check.court("pages 9;process p;every 4;base 100;fade 1;appeal 99;loan p 2 1;");
        y.stall(0, 2);
        y.run(4);
        Check.all("6 6 1", y.fine(0, 5), y.process(0, 1), y.evidence(0));
        y.giveBack(0, 2);
        y.run(3);
        Check.all("0 3", y.process(0, 0), y.process(0, 1));
        Check.all("2 0 1", y.appeal(0), y.process(0, 0), y.process(0, 1));
        MemoryCourt z = Check.court("pages 9;process p;every 4;base 34;appeal 99;loan p 1 1;");
        z.stall(0, 99);
        z.run(4);
        z.giveBack(0, 1);
        z.run(1);
        Check.all("2 1 3", z.fine(0, 5), z.process(0, 1), z.process(0, 0));
        Check.all("2 0 0 0", z.appeal(0), z.fine(0, 5), z.process(0, 1), z.process(0, 0));
        // appeal 0: only at the time of the hearing.
        MemoryCourt w = Check.court("pages 9;process p;every 2;base 50;appeal 0;loan p 1 1;");
        w.run(2);
        Check.equal(w.appeal(0), 0);
        w.run(3);
        Check.noState(() -> w.appeal(1));
        // Weight 10, fine 4; 4 * 3 / 5 is rounded up to 3, and 4 of the record of 10 are gone.
        MemoryCourt v = Check.court("pages 9;process p;every 6;base 33;loan p 2 1;");
        v.stall(0, 3);
        v.run(6);
        Check.all("4 1 6 3", v.fine(0, 7), v.appeal(0), v.process(0, 0), v.process(0, 1));
    }

    private static void promise34() {
        Check.at("promise 34");
        MemoryCourt x = Check.court("pages 9;order small;");
        Check.all("1 2 2 0", x.setOrder(2), x.setOrder(2), x.setOrder(0), x.setOrder(0));
        Check.all("0 4", x.count(3), x.count(20));
        Check.noArgument(() -> x.setOrder(3));
        Check.noArgument(() -> x.setOrder(-1));
        Check.noArgument(() -> x.setOrder(Integer.MIN_VALUE));
    }

    private static String all(MemoryCourt x) {
        StringBuilder b = new StringBuilder();
        String counts = Check.counts(x);
        b.append(counts, 0, counts.lastIndexOf(' ')).append('|').append(Check.pages(x));
        for (int i = 0; i < x.count(1); i++) {
            b.append('|').append(Check.processOf(x, i));
        }
        for (int i = 0; i < x.count(10); i++) {
            b.append('|').append(Check.loanOf(x, i));
        }
        for (int i = 0; i < x.count(13); i++) {
            b.append('|').append(Check.claimOf(x, i));
        }
        for (int i = 0; i < x.count(18); i++) {
            b.append('|').append(Check.fineOf(x, i)).append(' ').append(x.evidence(i));
        }
        return b.toString();
    }

    /** Some of eleven changes, each kind among them, and some undone; a new court each time for its views. */
    private static MemoryCourt changed(int changes, int undone) {
        MemoryCourt x = Check.court("pages 9;process p;process q;every 3;fade 4;loan p 2 2;loan q 3 20;ask q 2 5;ask q 9 9;");
        Runnable[] all = {() -> x.stall(0, 2), () -> x.renew(1, 5), () -> x.run(3), () -> x.appeal(0),
            () -> x.giveBack(0, 1), () -> x.setOrder(2), () -> x.ask(0, 2, 3), () -> x.withdraw(1), () -> x.run(9),
            () -> x.stall(1, 0), () -> x.setOrder(2)};
        for (int i = 0; i < changes; i++) {
            Check.equal(x.count(20), Math.min(i, 8));
            all[i].run();
        }
        for (int left = 7; left >= 8 - undone; left--) {
            Check.all(left + " " + left, x.undo(), x.count(20));
        }
        return x;
    }

    private static void promise35() {
        Check.at("promise 35");
        Check.noState(changed(0, 0)::undo);
        for (int undone = 0; undone <= 8; undone++) {
            Check.equal(all(changed(11, undone)), all(changed(11 - undone, 0)));
        }
        MemoryCourt x = changed(11, 8);
        Check.noState(x::undo);
        // A change behind undos goes on from there.
        x.setOrder(1);
        x.setOrder(2);
        Check.all("1 1", x.undo(), x.count(3));
        x.run(2);
        Check.all("1 0", x.undo(), x.undo());
        Check.equal(all(x), all(changed(3, 0)));
        Check.noState(x::undo);
        undoneFromTheFirstChange();
        // What fails is no change, nor is a view, a forecast, parse with an error or saving.
        MemoryCourt y = Check.court("pages 9;process p;loan p 1 5;ask p 9 9;");
        y.stall(0, 1);
        Check.noArgument(() -> y.run(0));
        Check.noArgument(() -> y.ask(0, 0, 1));
        Check.noIndex(() -> y.withdraw(1));
        Check.noElement(() -> y.appeal(0));
        y.freeIn(5);
        y.helps(0, 0);
        y.saveState();
        y.printProcess(0);
        y.find();
        y.parse();
        Check.all("1 0 0", y.count(20), y.undo(), y.process(0, 2));
        // The buffer, the error, the output and the saved state stay.
        y.run(4);
        y.printProcess(0);
        Check.input(y, "p");
        y.undo();
        Check.all("0 p 0 0 1@5 1 0 0", y.count(2), Check.output(y), y.errorCode(), y.errorOffset(), y.find());
        y.run(1);
        y.saveState();
        y.undo();
        Check.all("0 1", y.count(2), y.restoreState());
    }

    /** One change of each kind, undone at once. */
    private static void undoneFromTheFirstChange() {
        String before = all(oneMore(NO_CHANGE));
        for (int kind = 0; kind < NO_CHANGE; kind++) {
            Check.equal(all(oneMore(kind)).equals(before), false);
            MemoryCourt x = oneMore(kind);
            Check.equal(x.undo(), 5);
            Check.equal(all(x), before);
        }
        // A tick that was undone and comes again without a stall leaves no trace of the stall.
        MemoryCourt y = oneMore(NO_CHANGE);
        y.run(2);
        y.undo();
        y.stall(0, 0);
        y.run(2);
        Check.all("true false false", y.wasStalled(0, 3), y.wasStalled(0, 4), y.wasStalled(0, 5));
    }

    private static MemoryCourt oneMore(int kind) {
        MemoryCourt x = Check.court("pages 9;process p;process q;every 3;loan p 2 2;loan q 3 20;");
        x.stall(0, 1);
        x.run(2);
        x.stall(0, 9);
        x.run(1);
        x.ask(1, 9, 9);
        switch (kind) {
            case 0: x.stall(0, 2); break;
            case 1: x.renew(1, 5); break;
            case 2: x.run(3); break;
            case 3: x.appeal(0); break;
            case 4: x.giveBack(0, 1); break;
            case 5: x.setOrder(2); break;
            case 6: x.ask(0, 2, 3); break;
            case 7: x.withdraw(0); break;
            default: break;
        }
        return x;
    }
}
