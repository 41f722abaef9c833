import java.util.LinkedHashMap;
import java.util.LinkedHashSet;
import java.util.Map;
import java.util.Set;
import java.util.function.Consumer;

/**
 * What a call leaves as it was. All that can be seen of a court is written down ahead of a call and behind
 * it; the two differ in what the document says that the call does, and in nothing else. Refused calls are
 * looked at in RefusedTest. The sentence of the document stands over a test.
 */
public final class FrameTest {
    public static void main(String[] args) throws Exception {
        Check.tests(FrameTest.class);
    }

    // ---- the court of all these tests

    /**
     * At 4: loan 0 of p is broken and was fined, loan 1 of q is kept, loan 2 of r is closed. Claim 1 of r was
     * met and is loan 3; of the claims of q 0 was put off, 2 was withdrawn, and 3 is new. Two changes can be undone.
     */
    private static MemoryCourt court() {
        MemoryCourt x = Check.court("pages 16;process p;process q;process r;every 4;base 50;fade 9;patience 3;appeal 2;"
            + "loan p 4 1;loan q 3 9;loan r 1 2;ask q 16 5;");
        Check.input(x, "pages 3;");
        x.parse();
        x.giveBack(2, 1);
        x.ask(2, 2, 9);
        x.stall(0, 2);
        x.stall(1, 9);
        x.run(4);
        x.withdraw(x.ask(1, 15, 7));
        x.saveState();
        x.restoreState();
        x.ask(1, 16, 7);
        x.stall(2, 3);
        x.printProcess(1);
        Check.input(x, "q");
        return x;
    }

    /** Each answer of a court under its call, then the courts behind its undos and the saved one. */
    private static Map<String, String> seen(MemoryCourt x) {
        Map<String, String> seen = new LinkedHashMap<>();
        put(seen, "count", Check.counts(x));
        for (int i = 0; i < x.count(0); i++) {
            seen.put("page " + i, "" + x.page(i));
        }
        for (int i = 0; i < x.count(1); i++) {
            put(seen, "process " + i, Check.processOf(x, i));
            for (int time = 0; time <= 9; time++) {
                seen.put("stalled " + i + " " + time, x.wasStalled(i, time) ? "1" : "0");
            }
        }
        for (int i = 0; i < x.count(10); i++) {
            put(seen, "loan " + i, Check.loanOf(x, i));
        }
        for (int i = 0; i < x.count(13); i++) {
            put(seen, "claim " + i, Check.claimOf(x, i));
        }
        for (int i = 0; i < x.count(18); i++) {
            put(seen, "fine " + i, Check.fineOf(x, i) + " " + x.evidence(i));
        }
        seen.put("error", x.errorCode() + "@" + x.errorOffset());
        seen.put("output", Check.output(x));
        int length = x.feed(0, 0, 0, 0, 0) - 20;
        x.truncate(length);
        seen.put("buffer", length + ":" + x.find());
        for (int left = x.count(20); left > 0; left--) {
            seen.put("undo " + left, x.undo() + ":" + brief(x));
        }
        seen.put("saved", x.restoreState() + ":" + brief(x));
        return seen;
    }

    private static void put(Map<String, String> seen, String call, String answers) {
        String[] each = answers.split(" ");
        for (int what = 0; what < each.length; what++) {
            seen.put(call + " " + what, each[what]);
        }
    }

    private static String brief(MemoryCourt x) {
        return "time " + x.count(2) + " order " + x.count(3) + " free " + x.count(9) + " wait " + x.count(14) + " stall " + x.process(1, 2);
    }

    /** Compares the answers that a call makes other ones: each with what it was and what it is then. */
    private static void makesOther(String due, Consumer<MemoryCourt> call) {
        compare(due, seen(court()), call, false);
    }

    /** The same for a change, with which one more can be undone: the court behind its undo is the one ahead of it. */
    private static void changes(String due, Consumer<MemoryCourt> call) {
        Map<String, String> before = seen(court());
        before.put("count 20", "3");
        before.put("undo 3", "2:" + brief(court()));
        compare(due, before, call, true);
    }

    private static void compare(String due, Map<String, String> before, Consumer<MemoryCourt> call, boolean change) {
        MemoryCourt x = court();
        call.accept(x);
        Map<String, String> behind = seen(x);
        Set<String> keys = new LinkedHashSet<>(before.keySet());
        keys.addAll(behind.keySet());
        StringBuilder b = new StringBuilder();
        for (String key : keys) {
            String was = before.getOrDefault(key, "none"), is = behind.getOrDefault(key, "none");
            if (!was.equals(is)) {
                b.append(b.length() > 0 ? ", " : "").append(key).append(": ").append(was).append('>').append(is);
            }
        }
        Check.equal(b.toString(), due);
        if (change) {
            // What can be seen behind its undo is all as it was, apart from the place of the undone change.
            MemoryCourt y = court();
            call.accept(y);
            Check.equal(y.undo(), 2);
            Check.equal(seen(y), seen(court()));
        }
    }

    // ---- promises 2 to 8

    // Appends twenty bytes to the input buffer.  Shortens the input buffer to its first bytes.
    private static void feedAndTruncateChangeTheBuffer() {
        makesOther("buffer: 1:1>21:-1", x -> x.feed(0, 0, 0, 0, 0));
        makesOther("buffer: 1:1>0:-1", x -> x.truncate(0));
        makesOther("", x -> x.truncate(1));
    }

    // NONE if the text has an error, in which case everything but the buffer and the error is kept.
    private static void parseWithAnErrorChangesBufferAndError() {
        makesOther("error: 2@6>1@0, buffer: 1:1>0:-1", MemoryCourt::parse);
        makesOther("error: 2@6>3@42, buffer: 1:1>0:-1", x -> {
            Check.input(x, "pages 64;process z;every 1;process y;loan x 9 9;");
            x.parse();
        });
    }

    // Finds a process by the name that is the whole content of the input buffer, which is empty afterwards.
    private static void findEmptiesTheBuffer() {
        makesOther("buffer: 1:1>0:-1", MemoryCourt::find);
        makesOther("buffer: 1:1>0:-1", x -> {
            Check.input(x, "nobody");
            x.find();
        });
    }

    // ---- what there is, and the forecasts: what comes if ticks pass and nothing else happens; nothing changes.

    private static void viewsChangeNothing() {
        makesOther("", x -> Check.all("16 2 -1 2 6", x.count(0), x.count(20), x.count(21), x.errorCode(), x.errorOffset()));
        makesOther("", x -> Check.all("12 13 0 7 2 1", x.process(0, 0), x.loan(3, 2), x.page(3), x.pageOf(3, 0), x.loan(3, 1), x.pieces(3)));
        makesOther("", x -> Check.all("7 16 0 3", x.longestFree(), x.claim(3, 1), x.waiting(0), x.waiting(1)));
        makesOther("", x -> Check.all("6 1 true false", x.fine(0, 5), x.evidence(0), x.wasStalled(0, 2), x.wasStalled(0, 3)));
        makesOther("", x -> Check.all("8 25 4 0 0 3.0 1.0", x.nextHearing(), x.shortage(), x.overdue(), x.firstBroken(), x.worst(),
            x.meanLate(), x.metShare()));
    }

    private static void forecastsChangeNothing() {
        // At 8 the fine is 16 * 62 / 100, rounded up; at 12 claim 0 has been put off for the third time.
        makesOther("", x -> Check.all("-1 8 -1 12", x.metIn(0, 500), x.refusedIn(0, 500), x.metIn(3, 500), x.refusedIn(3, 500)));
        makesOther("", x -> Check.all("10 0 10 0", x.wouldFine(0), x.wouldFine(1), x.wouldPay(0), x.wouldPay(1)));
        makesOther("", x -> Check.all("7 28 12 4", x.freeIn(500), x.processIn(0, 4, 0), x.processIn(0, 4, 1), x.processIn(0, 4, 2)));
        makesOther("", x -> Check.all("0 -1 -1 2", x.bestOrder(500), x.helps(1, 0), x.helps(0, 3), x.wouldAppeal(0)));
    }

    // ---- changes

    // Lets ticks pass.
    private static void runChangesWhatItsTicksChange() {
        changes("count 2: 4>5, process 0 1: 6>5, process 1 2: 5>4, process 1 9: 4>5, stalled 1 5: 0>1, process 2 2: 3>2, "
            + "process 2 9: 0>1, stalled 2 5: 0>1", x -> x.run(1));
        changes("count 2: 4>8, count 17: 1>2, count 18: 1>2, process 0 0: 12>28, process 0 1: 6>12, process 0 8: 1>2, "
            + "process 1 2: 5>1, process 1 9: 4>8, stalled 1 5: 0>1, stalled 1 6: 0>1, stalled 1 7: 0>1, stalled 1 8: 0>1, "
            + "process 2 2: 3>0, process 2 9: 0>3, stalled 2 5: 0>1, stalled 2 6: 0>1, stalled 2 7: 0>1, claim 0 4: 1>2, claim 3 4: 0>1, "
            + "fine 1 0: none>0, fine 1 1: none>0, fine 1 2: none>16, fine 1 3: none>4, fine 1 4: none>8, fine 1 5: none>10, "
            + "fine 1 6: none>0, fine 1 7: none>10, fine 1 8: none>0", x -> x.run(4));
    }

    // Asks for pages: other claims, put off or not, stay as they are.
    private static void askAddsAClaim() {
        for (int pages = 1; pages <= 4; pages++) {
            int each = pages;
            changes("count 13: 4>5, count 14: 2>3, process 0 6: 0>1, claim 4 0: none>0, claim 4 1: none>" + pages + ", claim 4 2: none>9, "
                + "claim 4 3: none>0, claim 4 4: none>0, claim 4 5: none>-1, claim 4 6: none>4", x -> x.ask(0, each, 9));
        }
    }

    // Withdraws a claim that waits.
    private static void withdrawChangesTheClaim() {
        changes("count 14: 2>1, process 1 6: 2>1, claim 0 3: 0>3", x -> x.withdraw(0));
        changes("count 14: 2>1, process 1 6: 2>1, claim 3 3: 0>3", x -> x.withdraw(3));
    }

    // Gives pages of a loan back.
    private static void giveBackChangesTheLoan() {
        changes("count 9: 7>9, page 2: 0>-1, page 3: 0>-1, process 0 3: 4>2, loan 0 1: 4>2", x -> x.giveBack(0, 2));
        changes("count 9: 7>11, count 11: 3>2, count 12: 1>0, page 0: 0>-1, page 1: 0>-1, page 2: 0>-1, page 3: 0>-1, "
            + "process 0 3: 4>0, process 0 4: 1>0, process 0 5: 1>0, loan 0 1: 4>0, loan 0 5: 1>0", x -> x.giveBack(0, 4));
        changes("count 9: 7>8, page 8: 3>-1, process 2 3: 2>1, loan 3 1: 2>1", x -> x.giveBack(3, 1));
    }

    // Renews a promise: the due time of an open loan becomes later.
    private static void renewChangesTheDueTime() {
        changes("loan 1 2: 9>14", x -> x.renew(1, 5));
    }

    // Sets the stall of a process.
    private static void stallChangesTheStall() {
        changes("process 1 2: 5>7", x -> x.stall(1, 7));
        changes("process 0 2: 0>99", x -> x.stall(0, 99));
        changes("", x -> x.stall(2, 3));
    }

    // The fine becomes fine * (length - evidence) / length; the bar becomes less, the record by weight * evidence / length
    private static void appealChangesFineBarAndRecord() {
        changes("process 0 0: 12>8, process 0 1: 6>4, fine 0 5: 6>4, fine 0 6: 0>1", x -> x.appeal(0));
    }

    // Sets the order of claims.
    private static void setOrderChangesTheOrder() {
        changes("count 3: 0>2", x -> x.setOrder(2));
        changes("", x -> x.setOrder(0));
    }

    // Undoes the latest change that was not undone yet.
    private static void undoChangesWhatTheChangeDid() {
        makesOther("count 20: 2>1, process 2 2: 3>0, undo 2: 1:time 4 order 0 free 7 wait 2 stall 5>none", MemoryCourt::undo);
    }

    // ---- output and state

    // Writes a process to the output, in place of the text before.
    private static void printProcessChangesTheOutput() {
        makesOther("output: q 0 0 3@9>p 12 6 4@1!", x -> x.printProcess(0));
        makesOther("", x -> x.printProcess(1));
        makesOther("", x -> Check.all("113 -1", x.outputByte(0), x.outputByte(99)));
    }

    // Saves everything but the input buffer, the error, the output and the changes that can be undone.
    private static void saveStateChangesTheSavedState() {
        makesOther("saved: 4:time 4 order 0 free 7 wait 1 stall 5>4:time 4 order 0 free 7 wait 2 stall 5", MemoryCourt::saveState);
    }

    // Restores the saved state, which stays saved. Nothing can be undone then.
    private static void restoreStateChangesTheCourt() {
        makesOther("count 13: 4>3, count 14: 2>1, count 20: 2>0, process 1 6: 2>1, process 2 2: 3>0, claim 3 0: 1>none, "
            + "claim 3 1: 16>none, claim 3 2: 7>none, claim 3 3: 0>none, claim 3 4: 0>none, claim 3 5: -1>none, claim 3 6: 4>none, "
            + "undo 2: 1:time 4 order 0 free 7 wait 2 stall 5>none, undo 1: 0:time 4 order 0 free 7 wait 1 stall 5>none",
            MemoryCourt::restoreState);
    }
}
