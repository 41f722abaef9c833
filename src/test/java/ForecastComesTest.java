import java.util.function.Supplier;

/**
 * "Forecasts: what comes if ticks pass (not beyond the time 2000) and nothing else happens": each forecast of
 * some courts is compared with what comes on another court with the same calls before, tick by tick.
 */
public final class ForecastComesTest {
    private static final int AHEAD = 40;

    public static void main(String[] args) throws Exception {
        Check.tests(ForecastComesTest.class);
    }

    // ---- the courts

    /** Three processes, broken loans and claims that are met, put off and refused in turn. */
    private static MemoryCourt busy(int order) {
        MemoryCourt x = Check.court("pages 20;process p;process q;process r;every 3;base 40;fade 7;patience 4;appeal 30;"
            + "loan p 6 2;loan q 4 9;loan r 3 30;loan p 2 4;ask q 9 6;ask r 5 3;ask p 4 9;ask r 12 2;ask q 1 20;");
        x.setOrder(order);
        x.stall(0, 5);
        x.run(4);
        x.ask(2, 2, 5);
        x.stall(1, 99);
        return x;
    }

    /** No hearing has been, and the next one is far. */
    private static MemoryCourt early() {
        MemoryCourt x = Check.court("pages 12;process p;process q;every 19;base 100;fade 4;patience 1;order clean;"
            + "loan p 5 3;loan q 3 18;ask q 5 9;ask p 4 9;");
        x.stall(0, 11);
        return x;
    }

    /** Ticks end at 2000, with one hearing before, or none. */
    private static MemoryCourt late(int time) {
        MemoryCourt x = Check.court("pages 12;process p;process q;every 12;base 30;fade 50;patience 2;order small;loan p 5 3;");
        Check.pass(x, time - 20);
        x.giveBack(0, 3);
        Check.pass(x, 20);
        x.ask(1, 9, 9);
        x.ask(1, 2, 9);
        x.ask(0, 1, 9);
        return x;
    }

    /** p has a record and gave its pages back. Most claims are met by small, or, without it, by clean. */
    private static MemoryCourt recorded(boolean small) {
        MemoryCourt x = Check.court("pages 6;process p;process q;every 3;base 1;fade 99;patience 9;loan p 1 2;");
        x.run(3);
        x.giveBack(0, 1);
        x.ask(0, small ? 5 : 2, 90);
        x.ask(1, small ? 3 : 5, small ? 90 : 1);
        x.ask(small ? 0 : 1, small ? 2 : 6, small ? 90 : 2);
        return x;
    }

    private static void each(Comparison comparison) {
        comparison.make(() -> busy(0));
        comparison.make(() -> busy(1));
        comparison.make(() -> busy(2));
        comparison.make(ForecastComesTest::early);
        comparison.make(() -> late(1983));
        comparison.make(() -> late(1993));
        comparison.make(() -> late(2000));
        comparison.make(() -> recorded(true));
        comparison.make(() -> recorded(false));
    }

    private interface Comparison {
        void make(Supplier<MemoryCourt> court);
    }

    /** Lets as many of these ticks pass as there are up to 2000. */
    private static int pass(MemoryCourt x, int ticks) {
        return Check.pass(x, Math.min(ticks, 2000 - x.count(2)));
    }

    // ---- the forecasts

    // Forecasts when a claim is met.  Forecasts when a claim is refused.
    private static void metInAndRefusedIn() {
        each(court -> {
            int claims = court.get().count(13);
            for (int claim = 0; claim < claims; claim++) {
                MemoryCourt x = court.get(), y = court.get();
                int[] due = {-1, -1};
                boolean waits = y.claim(claim, 3) == MemoryCourt.WAITS;
                for (int tick = 1; tick <= AHEAD && waits; tick++) {
                    pass(y, 1);
                    int state = y.claim(claim, 3);
                    waits = state == MemoryCourt.WAITS;
                    if (!waits) {
                        due[state == MemoryCourt.MET ? 0 : 1] = tick;
                    }
                }
                Check.all(due[0] + " " + due[1], x.metIn(claim, AHEAD), x.refusedIn(claim, AHEAD));
                for (int i = 0; i < 2 && due[0] + due[1] > 0; i++) {
                    int ticks = Math.max(due[0], due[1]) - i;
                    if (ticks > 0) {
                        Check.all((i == 0 ? due[0] : -1) + " " + (i == 0 ? due[1] : -1), x.metIn(claim, ticks), x.refusedIn(claim, ticks));
                    }
                }
            }
        });
    }

    // Forecasts the fine of a loan at the next hearing.  Forecasts the sum of the fines of a process at the next hearing.
    private static void wouldFineAndWouldPay() {
        each(court -> {
            MemoryCourt x = court.get(), y = court.get();
            int fines = y.count(18), loans = y.count(10);
            int[] ofLoan = new int[loans + 60], ofProcess = new int[y.count(1)];
            if (y.nextHearing() != MemoryCourt.NONE) {
                pass(y, y.nextHearing() - y.count(2));
            }
            for (int fine = fines; fine < y.count(18); fine++) {
                ofLoan[y.fine(fine, 1)] += y.fine(fine, 5);
                ofProcess[y.fine(fine, 0)] += y.fine(fine, 5);
            }
            for (int loan = 0; loan < loans; loan++) {
                Check.equal(x.wouldFine(loan), ofLoan[loan]);
            }
            for (int process = 0; process < ofProcess.length; process++) {
                Check.equal(x.wouldPay(process), ofProcess[process]);
            }
        });
    }

    // Forecasts how many pages are free behind some ticks.  Forecasts a number of a process.
    private static void freeInAndProcessIn() {
        each(court -> {
            MemoryCourt x = court.get(), y = court.get();
            for (int ticks = 1; ticks <= 20; ticks++) {
                pass(y, 1);
                Check.equal(x.freeIn(ticks), y.count(9));
                for (int process = 0; process < y.count(1); process++) {
                    Check.all(y.process(process, 0) + " " + y.process(process, 1) + " " + y.process(process, 3),
                        x.processIn(process, ticks, 0), x.processIn(process, ticks, 1), x.processIn(process, ticks, 2));
                }
            }
        });
    }

    // Finds the order with which most claims are met in the next ticks if it was set now.
    private static void bestOrder() {
        each(court -> {
            for (int ticks = 1; ticks <= AHEAD; ticks++) {
                int best = -1, most = -1;
                for (int order = 0; order < 3; order++) {
                    MemoryCourt y = court.get();
                    y.setOrder(order);
                    int met = pass(y, ticks);
                    if (met > most) {
                        best = order;
                        most = met;
                    }
                }
                Check.equal(court.get().bestOrder(ticks), best);
            }
        });
    }

    // Forecasts how many pages of a loan would have to be given back now, as few as possible, so that a claim is met ...
    private static void helps() {
        each(court -> {
            MemoryCourt x = court.get();
            for (int loan = 0; loan < x.count(10); loan++) {
                for (int claim = 0; claim < x.count(13); claim++) {
                    Check.equal(x.helps(loan, claim), fewestPages(court, loan, claim));
                }
            }
        });
    }

    private static int fewestPages(Supplier<MemoryCourt> court, int loan, int claim) {
        MemoryCourt x = court.get();
        if (x.claim(claim, 3) != MemoryCourt.WAITS || x.nextHearing() == MemoryCourt.NONE) {
            return MemoryCourt.NONE;
        }
        int has = x.loan(loan, 1);
        for (int pages = 0; pages <= has; pages++) {
            MemoryCourt y = court.get();
            if (pages > 0) {
                y.giveBack(loan, pages);
            }
            pass(y, y.nextHearing() - y.count(2));
            if (y.claim(claim, 3) == MemoryCourt.MET) {
                return pages;
            }
        }
        return MemoryCourt.NONE;
    }

    // Tells what an appeal of a fine would bring.
    private static void wouldAppeal() {
        each(court -> {
            for (int ticks = 0; ticks <= AHEAD; ticks += 3) {
                MemoryCourt x = court.get();
                pass(x, ticks);
                for (int fine = Math.max(0, x.count(18) - 9); fine < x.count(18); fine++) {
                    int due;
                    try {
                        due = x.appeal(fine);
                        x.undo();
                    } catch (IllegalStateException e) {
                        due = MemoryCourt.NONE;
                    }
                    Check.equal(x.wouldAppeal(fine), due);
                }
            }
        });
    }
}
