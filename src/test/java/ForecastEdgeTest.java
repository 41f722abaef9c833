/**
 * The edges of the promises 36 to 48, forecasts, output and saved states: a test for each sentence that
 * names one, on both of its sides. Its sentence stands over a test.
 */
public final class ForecastEdgeTest {
    private static final int LEAST = Integer.MIN_VALUE, MOST = Integer.MAX_VALUE;
    private static final int[] NO_TICKS = {0, -1, 501, LEAST, MOST};

    public static void main(String[] args) throws Exception {
        Check.tests(ForecastEdgeTest.class);
    }

    private static MemoryCourt behind(int ticks, String text) {
        MemoryCourt x = Check.court(text);
        Check.pass(x, ticks);
        return x;
    }

    // ---- promises 36 and 37

    // Throws IndexOutOfBoundsException if there is no such claim.  Throws IllegalArgumentException if ticks is out of range
    private static void forecastsOfAClaimIn1To500Ticks() {
        MemoryCourt x = Check.court("pages 9;process p;every 1;patience 1;ask p 9 9;ask p 1 9;");
        Check.all("1 1 1 1", x.metIn(0, 1), x.metIn(0, 500), x.refusedIn(1, 1), x.refusedIn(1, 500));
        for (int ticks : NO_TICKS) {
            Check.noArgument(() -> x.metIn(0, ticks));
            Check.noArgument(() -> x.refusedIn(0, ticks));
            Check.noIndex(() -> x.metIn(2, ticks));
            Check.noIndex(() -> x.refusedIn(2, ticks));
        }
        for (int claim : new int[] {-1, 2, LEAST, MOST}) {
            Check.noIndex(() -> x.metIn(claim, 1));
            Check.noIndex(() -> x.refusedIn(claim, 1));
        }
        Check.noIndex(() -> new MemoryCourt().metIn(0, 1));
        Check.noIndex(() -> new MemoryCourt().refusedIn(0, 1));
    }

    // Returns the number of ticks until it is; NONE if it does not wait, or is not met in these ticks.
    private static void metInTheseTicks() {
        MemoryCourt x = Check.court("pages 9;process p;every 7;ask p 9 9;");
        for (int time = 0; time < 7; time++) {
            int left = 7 - time;
            Check.all(left + " " + left, x.metIn(0, left), x.metIn(0, 500));
            if (left > 1) {
                Check.equal(x.metIn(0, left - 1), -1);
            }
            x.run(1);
        }
        Check.all("1 -1", x.claim(0, 3), x.metIn(0, 500));
        // In exactly 500 ticks: the loan is due at 495, and broken at the hearing at 500; due at 500 it is not.
        MemoryCourt y = Check.court("pages 9;process p;process q;every 50;patience 20;loan p 9 99;");
        for (int i = 0; i < 4; i++) {
            y.renew(0, 99);
        }
        y.ask(1, 1, 9);
        Check.all("500 -1", y.metIn(0, 500), y.metIn(0, 499));
        y.undo();
        y.renew(0, 4);
        y.ask(1, 1, 9);
        Check.equal(y.metIn(0, 500), 500);
        y.undo();
        y.renew(0, 1);
        y.ask(1, 1, 9);
        Check.equal(y.metIn(0, 500), -1);
    }

    // Returns the number of ticks until it is; NONE if it does not wait, or is not refused in these ticks.
    private static void refusedInTheseTicks() {
        for (int patience = 9; patience <= 11; patience++) {
            MemoryCourt x = Check.court("pages 9;process p;every 50;patience " + patience + ";loan p 9 99;ask p 1 9;");
            int due = 50 * patience;
            Check.all((due > 500 ? -1 : due) + " -1", x.refusedIn(0, 500), x.refusedIn(0, Math.min(500, due - 1)));
        }
        MemoryCourt y = behind(1, "pages 9;process p;every 1;patience 2;loan p 9 99;ask p 1 9;");
        Check.all("1 -1", y.refusedIn(0, 1), y.metIn(0, 500));
        y.run(1);
        Check.all("2 -1", y.claim(0, 3), y.refusedIn(0, 500));
        y.withdraw(y.ask(0, 1, 1));
        Check.all("-1 -1", y.refusedIn(1, 500), y.metIn(1, 500));
    }

    // forecasts: what comes if ticks pass (not beyond the time 2000) and nothing else happens
    private static void forecastsEndAt2000() {
        // The next hearing would be at 2000 and at 2002.
        MemoryCourt x = behind(1990, "pages 9;process p;every 50;"), y = behind(1996, "pages 9;process p;every 7;patience 1;");
        for (MemoryCourt each : new MemoryCourt[] {x, y}) {
            each.ask(0, 9, 9);
            each.ask(0, 9, 9);
        }
        Check.all("10 10 -1 -1", x.metIn(0, 10), x.metIn(0, 500), x.metIn(0, 9), x.refusedIn(1, 500));
        Check.all("-1 -1 9 9", y.metIn(0, 500), y.refusedIn(1, 500), y.freeIn(500), y.freeIn(4));
        Check.all("0 9", x.freeIn(500), x.freeIn(9));
        Check.all("9 0 0", x.processIn(0, 500, 2), x.processIn(0, 9, 2), y.processIn(0, 500, 2));
        // At 2000 nothing comes any more.
        x.run(10);
        Check.all("-1 -1 0 0 9 0", x.metIn(1, 500), x.refusedIn(1, 500), x.freeIn(1), x.freeIn(500), x.processIn(0, 500, 2),
            x.bestOrder(500));
        // A bar and a record at 1999 change once, not more often: 243 and 999 of the hearing at 1998 come down.
        MemoryCourt z = behind(1999, "pages 9;process p;every 27;base 100;fade 1;loan p 9 99;");
        Check.all("121 998", z.process(0, 0), z.process(0, 1));
        Check.all("997 997 60 60", z.processIn(0, 1, 1), z.processIn(0, 500, 1), z.processIn(0, 1, 0), z.processIn(0, 500, 0));
    }

    // ---- promises 38 and 39

    // Returns the fine; 0 if there is none for it then, or no next hearing.
    private static void wouldFineAtTheNextHearing() {
        MemoryCourt x = Check.court("pages 20;process p;every 8;base 100;loan p 2 6;loan p 2 7;loan p 2 8;loan p 2 9;");
        // Weights 4 and 2, the record is 4 by then; those due at 8 and behind it are not fined.
        Check.all("4 3 0 0", x.wouldFine(0), x.wouldFine(1), x.wouldFine(2), x.wouldFine(3));
        x.giveBack(0, 2);
        Check.all("0 2 0 0", x.wouldFine(0), x.wouldFine(1), x.wouldFine(2), x.wouldFine(3));
        for (int loan : new int[] {-1, 4, LEAST, MOST}) {
            Check.noIndex(() -> x.wouldFine(loan));
        }
        Check.noIndex(() -> new MemoryCourt().wouldFine(0));
        // The last hearing is at 1995.
        MemoryCourt y = behind(1994, "pages 9;process p;every 7;base 1;fade 1;loan p 1 9;");
        Check.all("1 1", y.wouldFine(0), y.wouldPay(0));
        y.run(1);
        Check.all("0 0", y.wouldFine(0), y.wouldPay(0));
        MemoryCourt z = behind(1999, "pages 9;process p;every 50;base 1;fade 1;loan p 1 9;");
        Check.all("1 1", z.wouldFine(0), z.wouldPay(0));
        z.run(1);
        Check.all("0 0", z.wouldFine(0), z.wouldPay(0));
    }

    // Returns the sum; 0 also if there is no next hearing.  Throws ... if there is no such process
    private static void wouldPayTheSum() {
        MemoryCourt x = Check.court("pages 20;process p;process q;process r;every 8;base 100;loan p 2 6;loan p 2 7;loan q 2 8;loan r 1 7;");
        Check.all("7 0 1", x.wouldPay(0), x.wouldPay(1), x.wouldPay(2));
        for (int process : new int[] {-1, 3, LEAST, MOST}) {
            Check.noIndex(() -> x.wouldPay(process));
        }
        Check.noIndex(() -> new MemoryCourt().wouldPay(0));
        // More than one fine may tell: three of 200 are 600, and the bar would be 999 at most.
        MemoryCourt y = Check.court("pages 64;process p;every 50;base 100;"
            + "loan p 10 1;loan p 10 1;loan p 10 1;loan p 10 1;loan p 10 1;loan p 10 1;");
        Check.all("1200 999", y.wouldPay(0), y.processIn(0, 50, 1));
    }

    // ... at the next hearing: that one, and no tick more
    private static void nextHearingIsOneHearing() {
        MemoryCourt x = Check.court("pages 9;process p;process q;every 1;base 100;fade 99;loan p 1 1;ask q 9 9;");
        // At 1 the loan is not broken yet, so its page would have to be given back; at 2 it would be taken back.
        Check.all("0 0 1 2", x.wouldFine(0), x.wouldPay(0), x.helps(0, 0), x.metIn(0, 9));
        x.run(1);
        // At 2 one hundredth of 100, at 3 of 101.
        Check.all("1 1 0", x.wouldFine(0), x.wouldPay(0), x.helps(0, 0));
        // At the hearing itself the next one is meant.
        MemoryCourt y = behind(5, "pages 9;process p;process q;base 100;fade 99;loan p 1 4;ask q 9 9;");
        Check.all("1 1 0 0", y.fine(0, 5), y.claim(0, 3), y.wouldFine(0), y.wouldPay(0));
        MemoryCourt z = behind(5, "pages 9;process p;base 100;fade 99;loan p 1 4;");
        Check.all("1 6 6", z.fine(0, 5), z.wouldFine(0), z.wouldPay(0));
    }

    // ---- promises 40 to 42

    // ticks: 1 to 500.  Throws IllegalArgumentException if ticks is out of range
    private static void freeIn1To500Ticks() {
        // The claim is met at the first hearing, and nothing is given back.
        MemoryCourt x = Check.court("pages 9;process p;every 2;ask p 4 99;");
        Check.all("9 5 5", x.freeIn(1), x.freeIn(2), x.freeIn(500));
        for (int ticks : NO_TICKS) {
            Check.noArgument(() -> x.freeIn(ticks));
        }
    }

    // Throws IndexOutOfBoundsException if there is no such process.  ... IllegalArgumentException if ticks or what is out of range
    private static void processIn1To500Ticks() {
        MemoryCourt x = Check.court("pages 9;process p;process q;every 2;base 100;fade 3;loan q 3 1;");
        Check.all("0 3 2 1", x.processIn(1, 1, 0), x.processIn(1, 2, 0), x.processIn(1, 3, 1), x.processIn(1, 3, 0));
        Check.all("3 0", x.processIn(1, 500, 2), x.processIn(0, 500, 2));
        for (int ticks : NO_TICKS) {
            Check.noArgument(() -> x.processIn(0, ticks, 0));
            Check.noIndex(() -> x.processIn(2, ticks, 0));
        }
        for (int what : new int[] {-1, 3, LEAST, MOST}) {
            Check.noArgument(() -> x.processIn(0, 1, what));
            Check.noIndex(() -> x.processIn(2, 1, what));
        }
        for (int process : new int[] {-1, 2, LEAST, MOST}) {
            Check.noIndex(() -> x.processIn(process, 1, 0));
        }
        Check.noIndex(() -> new MemoryCourt().processIn(0, 1, 0));
    }

    // Returns the order, the smallest one on a tie.
    private static void bestOrderOfATie() {
        // Nothing is met with any order, or all with each; the order that is set does not matter.
        MemoryCourt none = new MemoryCourt(), all = Check.court("pages 9;process p;every 1;order clean;ask p 1 1;ask p 8 1;");
        none.setOrder(2);
        Check.all("0 0 0 0", none.bestOrder(1), none.bestOrder(500), all.bestOrder(1), all.bestOrder(500));
        // small and clean meet two, first one: p has the larger record and the claim for five.
        String head = "pages 6;process p;process q;every 3;base 1;fade 99;patience 9;loan p 1 2;";
        MemoryCourt tie = behind(3, head);
        tie.giveBack(0, 1);
        tie.ask(0, 5, 90);
        tie.ask(1, 3, 90);
        tie.ask(1, 2, 90);
        Check.all("0 1", tie.bestOrder(2), tie.bestOrder(3));
        // clean alone: the claim of q for five pages gives them back soon.
        MemoryCourt clean = behind(3, head);
        clean.giveBack(0, 1);
        clean.ask(0, 2, 90);
        clean.ask(1, 5, 1);
        Check.all("0 2", clean.bestOrder(5), clean.bestOrder(6));
        // first alone: as clean, but the one with the larger record stands in front.
        MemoryCourt first = behind(3, head);
        first.giveBack(0, 1);
        first.ask(0, 5, 1);
        first.ask(1, 2, 90);
        first.setOrder(1);
        Check.all("0 1", first.bestOrder(6), first.count(3));
        // The claims of all hearings count, not only those of the last one: the small ones come at once.
        MemoryCourt sum = Check.court("pages 6;process p;process q;every 3;patience 1;ask p 5 1;ask q 3 9;ask q 3 9;");
        Check.all("1 1", sum.bestOrder(3), sum.bestOrder(9));
        for (int ticks : NO_TICKS) {
            Check.noArgument(() -> first.bestOrder(ticks));
        }
    }

    // ---- promises 43 and 44

    // Returns the number of pages, 0 if it is met without
    private static void helpsByAsFewAsPossible() {
        // 2 pages are free and 5 are lent.
        for (int pages = 1; pages <= 9; pages++) {
            MemoryCourt x = Check.court("pages 9;process p;process q;every 3;loan p 5 50;loan q 2 50;ask q " + pages + " 9;");
            Check.equal(x.helps(0, 0), pages <= 2 ? 0 : pages <= 7 ? pages - 2 : -1);
            Check.equal(x.helps(1, 0), pages <= 2 ? 0 : pages <= 4 ? pages - 2 : -1);
        }
    }

    // ... how many pages of a loan: up to all pages of the court, and those of this loan alone
    private static void helpsByPagesOfThisLoan() {
        for (int pages : new int[] {1, 20, 21, 40, 41, 60, 61, 63, 64}) {
            MemoryCourt x = Check.court("pages 64;process p;process q;every 3;loan p 64 50;ask q " + pages + " 9;");
            Check.equal(x.helps(0, 0), pages);
        }
        // Only without the broken loan 1 is p not fined, and so not barred.
        MemoryCourt y = Check.court("pages 9;process p;every 3;loan p 3 50;loan p 4 2;ask p 1 9;ask p 2 9;ask p 9 9;");
        Check.all("-1 4 -1", y.helps(0, 0), y.helps(1, 0), y.helps(0, 1));
        Check.all("-1 4 -1", y.helps(1, 2), y.helps(1, 1), y.helps(0, 2));
    }

    // NONE if it is not met then, even if all are given back, or it does not wait.
    private static void helpsNotAtAll() {
        MemoryCourt x = Check.court("pages 9;process p;process q;every 3;patience 1;loan p 9 50;"
            + "ask q 9 9;ask q 1 9;ask q 1 9;");
        Check.all("9 1", x.helps(0, 0), x.helps(0, 1));
        x.withdraw(1);
        Check.all("-1 1", x.helps(0, 1), x.helps(0, 2));
        x.run(3);
        Check.all("2 -1 2 -1", x.claim(0, 3), x.helps(0, 0), x.claim(2, 3), x.helps(0, 2));
        // A closed loan has nothing to give back: its claim is met without, or not.
        x.giveBack(0, 9);
        x.ask(1, 9, 9);
        x.ask(1, 1, 9);
        Check.all("0 -1", x.helps(0, 3), x.helps(0, 4));
        x.run(3);
        Check.all("1 -1", x.claim(3, 3), x.helps(0, 3));
        for (int wrong : new int[] {-1, 5, LEAST, MOST}) {
            Check.noIndex(() -> x.helps(0, wrong));
            Check.noIndex(() -> x.helps(wrong, 0));
        }
        Check.noIndex(() -> Check.court("pages 9;process p;loan p 1 1;").helps(0, 0));
        Check.noIndex(() -> Check.court("pages 9;process p;ask p 1 1;").helps(0, 0));
        // With the last hearing at 2000, and with none any more.
        MemoryCourt y = behind(1999, "pages 9;process p;process q;every 50;loan p 9 99;");
        y.ask(1, 1, 1);
        Check.equal(y.helps(0, 0), 0);
        y.run(1);
        y.ask(1, 1, 1);
        Check.equal(y.helps(0, 1), -1);
    }

    // ... so that a claim is met at the next hearing
    private static void helpsAtTheNextHearingOnly() {
        // Without help it is met at 6, when the loan is broken.
        MemoryCourt x = Check.court("pages 9;process p;process q;every 3;loan p 9 5;ask q 2 9;");
        Check.all("6 2", x.metIn(0, 6), x.helps(0, 0));
        x.run(3);
        Check.equal(x.helps(0, 0), 0);
        // Its own broken loan bars it, as long as pages of it are kept.
        MemoryCourt y = Check.court("pages 9;process p;every 3;loan p 4 2;ask p 1 9;");
        Check.equal(y.helps(0, 0), 4);
    }

    // Returns by how much it would become less; NONE if it cannot be appealed now.
    private static void wouldAppealNow() {
        for (int appeal : new int[] {0, 1, 99}) {
            MemoryCourt x = behind(45, "pages 9;process p;every 50;base 100;appeal " + appeal + ";loan p 1 40;");
            x.stall(0, 3);
            x.run(5);
            Check.all("10 3", x.fine(0, 5), x.wouldAppeal(0));
            Check.pass(x, appeal);
            Check.equal(x.wouldAppeal(0), 3);
            x.run(1);
            Check.equal(x.wouldAppeal(0), -1);
            x.undo();
            Check.all("3 -1 7", x.appeal(0), x.wouldAppeal(0), x.fine(0, 5));
        }
    }

    // Throws NoSuchElementException if there is no such fine, or it is not known any more
    private static void wouldAppealAKnownFine() {
        MemoryCourt x = behind(41, "pages 4;process p;every 1;appeal 39;loan p 1 1;");
        Check.all("0 0", x.wouldAppeal(0), x.wouldAppeal(39));
        for (int fine : new int[] {-1, 40, LEAST, MOST}) {
            Check.noElement(() -> x.wouldAppeal(fine));
        }
        x.run(1);
        Check.all("0 0", x.wouldAppeal(1), x.wouldAppeal(40));
        Check.noElement(() -> x.wouldAppeal(0));
        Check.noElement(() -> new MemoryCourt().wouldAppeal(0));
    }

    // ---- promises 45 and 46

    private static void printed(MemoryCourt x, int process, String due) {
        Check.equal(x.printProcess(process), due.length());
        Check.equal(Check.output(x), due);
    }

    // ... for each of its open loans, by number
    private static void printOpenLoans() {
        MemoryCourt x = Check.court("pages 9;process p;process abcdef;every 50;loan abcdef 3 2;loan abcdef 1 1;");
        printed(x, 0, "p 0 0");
        printed(x, 1, "abcdef 0 0 3@2 1@1");
        x.giveBack(0, 2);
        printed(x, 1, "abcdef 0 0 1@2 1@1");
        x.giveBack(0, 1);
        printed(x, 1, "abcdef 0 0 1@1");
        x.giveBack(1, 1);
        printed(x, 1, "abcdef 0 0");
        for (int process : new int[] {-1, 2, LEAST, MOST}) {
            Check.noIndex(() -> x.printProcess(process));
        }
        Check.noIndex(() -> new MemoryCourt().printProcess(0));
    }

    // ... and "!" if it is broken
    private static void printBrokenLoans() {
        MemoryCourt x = Check.court("pages 9;process p;every 50;loan p 3 2;loan p 1 3;");
        x.run(2);
        printed(x, 0, "p 0 0 3@2 1@3");
        x.run(1);
        printed(x, 0, "p 0 0 3@2! 1@3");
        x.run(1);
        printed(x, 0, "p 0 0 3@2! 1@3!");
    }

    // ... its record, a space, its bar ...: numbers of one digit up to those of four
    private static void printNumbersOfEachLength() {
        MemoryCourt x = Check.court("pages 64;process p;process q;every 38;base 1;fade 99;loan p 27 1;loan p 9 99;loan p 10 9;loan q 1 99;");
        printed(x, 0, "p 0 0 27@1 9@99 10@9");
        for (int i = 0; i < 20; i++) {
            x.renew(3, 99);
        }
        printed(x, 1, "q 0 0 1@2079");
        x.renew(1, 1);
        x.run(38);
        // 999 * 0.01, and 290 * 10 are cut off at 999.
        printed(x, 0, "p 999 210 27@1! 9@100 10@9!");
        x.run(1);
        printed(x, 0, "p 999 209 27@1! 9@100 10@9!");
    }

    // Returns the byte; NONE if there is no such byte.
    private static void outputByteFrom0ToTheLast() {
        MemoryCourt x = Check.court("pages 9;process p;process abc;loan abc 1 9;");
        Check.all("-1 -1 -1", x.outputByte(0), x.outputByte(-1), x.outputByte(1));
        Check.all("11 97 57 -1 -1", x.printProcess(1), x.outputByte(0), x.outputByte(10), x.outputByte(11), x.outputByte(-1));
        Check.all("-1 -1", x.outputByte(LEAST), x.outputByte(MOST));
        // A shorter text in place of it, not on top of it.
        Check.all("5 112 48 -1 -1", x.printProcess(0), x.outputByte(0), x.outputByte(4), x.outputByte(5), x.outputByte(10));
        Check.noIndex(() -> x.printProcess(2));
        Check.all("112 48 -1", x.outputByte(0), x.outputByte(4), x.outputByte(5));
    }

    // ---- promises 47 and 48

    // Returns the time.
    private static void saveAtAnyTime() {
        MemoryCourt x = Check.court("pages 9;process p;");
        Check.all("0 0", x.saveState(), x.restoreState());
        Check.pass(x, 2000);
        Check.all("0 2000", x.restoreState(), Check.pass(x, 2000) + x.saveState());
        Check.all("2000 2000", x.restoreState(), x.count(2));
    }

    // ... in place of an earlier saved state.
    private static void saveInPlaceOfTheEarlierOne() {
        MemoryCourt x = Check.court("pages 9;process p;");
        x.stall(0, 1);
        x.saveState();
        x.stall(0, 2);
        x.saveState();
        x.stall(0, 3);
        Check.all("0 2 0 2", x.restoreState(), x.process(0, 2), x.restoreState(), x.process(0, 2));
    }

    // Saves everything but ... the changes that can be undone.  Nothing can be undone then.
    private static void restoreAndUndo() {
        MemoryCourt x = Check.court("pages 9;process p;");
        x.stall(0, 1);
        x.saveState();
        Check.equal(x.count(20), 1);
        x.stall(0, 2);
        Check.all("0 0 1", x.restoreState(), x.count(20), x.process(0, 2));
        Check.noState(x::undo);
        x.stall(0, 3);
        Check.all("1 0 1", x.count(20), x.undo(), x.process(0, 2));
        Check.noState(x::undo);
        // Undo goes behind the saving, and the state stays saved.
        MemoryCourt y = Check.court("pages 9;process p;");
        y.stall(0, 1);
        y.saveState();
        Check.all("0 0", y.undo(), y.process(0, 2));
        Check.all("0 1", y.restoreState(), y.process(0, 2));
    }

    // Throws IllegalStateException if no state is saved
    private static void restoreWithoutASavedState() {
        MemoryCourt x = new MemoryCourt();
        Check.noState(x::restoreState);
        x.run(1);
        Check.noState(x::restoreState);
        Check.all("1 1", x.saveState(), x.restoreState());
        // Not behind a text without an error, but still behind one with an error.
        Check.input(x, "pages 3;");
        Check.all("-1 1", x.parse(), x.restoreState());
        Check.input(x, "pages 4;");
        Check.equal(x.parse(), 0);
        Check.noState(x::restoreState);
        Check.all("0 0", x.saveState(), x.restoreState());
    }

    // Saves everything but the input buffer, the error, the output ...
    private static void restoreKeepsTheRest() {
        MemoryCourt x = Check.court("pages 9;process p;process q;");
        x.printProcess(0);
        x.saveState();
        x.printProcess(1);
        Check.input(x, "pages 99;");
        x.parse();
        Check.input(x, "q");
        Check.all("0 2 6 q 0 0 1", x.restoreState(), x.errorCode(), x.errorOffset(), Check.output(x), x.find());
    }
}
