/**
 * Long runs of calls, the same ones on a MemoryCourt and on a ModelCourt, which must answer alike.
 * The runs come from a counter, so every run of this test is the same.
 */
public final class ModelTest {
    private static final int RUNS = 2000;
    // An object is used for at most so many calls.
    private static final int CALLS = 512;
    private static final int KINDS = 43;

    private static long seed;
    private static int used;

    private static int below(int bound) {
        seed = seed * 6364136223846793005L + 1442695040888963407L;
        return (int) ((seed >>> 33) % bound);
    }

    private static int between(int low, int high) {
        return low + below(high - low + 1);
    }

    private static int oneOf(int... values) {
        return values[below(values.length)];
    }

    /** Mostly a number from 0 to below count, seldom one beside it. */
    private static int index(int count) {
        int wild = below(40);
        if (wild == 0) {
            return oneOf(-1, count, count + 1, Integer.MAX_VALUE, Integer.MIN_VALUE);
        }
        return count > 0 ? below(count) : 0;
    }

    private static int ranged(int low, int high) {
        return below(25) == 0 ? oneOf(low - 1, high + 1, low, high, Integer.MAX_VALUE, Integer.MIN_VALUE)
            : between(low, high);
    }

    public static void main(String[] args) {
        for (int run = 0; run < RUNS; run++) {
            seed = run * 7919L + 17;
            for (int i = 0; i < 4; i++) {
                below(2);
            }
            if (!agree(run)) {
                System.exit(1);
            }
        }
        System.out.println("ModelTest: " + RUNS + " runs agree");
    }

    private static boolean agree(int run) {
        MemoryCourt court = new MemoryCourt();
        ModelCourt model = new ModelCourt();
        used = 0;
        boolean calm = below(2) == 0;
        int views = oneOf(8, 40, 400);
        StringBuilder story = new StringBuilder();
        boolean alike = parsedAlike(court, model, story);
        while (alike && used < CALLS) {
            if (below(90) == 0) {
                alike = parsedAlike(court, model, story);
            } else if (below(views) == 0) {
                alike = looksAlike(court, model, story);
            } else {
                int kind = calm && below(3) > 0 ? oneOf(18, 19, 19, 22, 23, 25) : below(KINDS);
                alike = answersAlike(court, model, kind, first(kind, model), second(kind, model), third(kind), story);
            }
        }
        if (!alike) {
            System.out.println("run " + run + ":\n" + story);
        }
        return alike;
    }

    private static boolean parsedAlike(MemoryCourt court, ModelCourt model, StringBuilder story) {
        String text = spoilt(setup());
        if (used + 35 > CALLS) {
            used = CALLS;
            return true;
        }
        feed(court, model, text);
        used += 3;
        return told(story, "parse " + text, court.parse() + " " + court.errorCode() + " " + court.errorOffset(),
            model.parse() + " " + model.code + " " + model.offset);
    }

    private static boolean answersAlike(MemoryCourt court, ModelCourt model, int kind, int a, int b, int c, StringBuilder story) {
        // Some kinds ask two things.
        used += 2;
        return used > CALLS
            || told(story, kind + "(" + a + ", " + b + ", " + c + ")", answer(court, kind, a, b, c), answer(model, kind, a, b, c));
    }

    private static boolean told(StringBuilder story, String call, String got, String due) {
        story.append(call).append(" = ").append(due).append('\n');
        if (!got.equals(due)) {
            story.append("but answered ").append(got).append('\n');
        }
        return got.equals(due);
    }

    /** Compares all that can be seen of some kinds, as far as calls are left. */
    private static boolean looksAlike(MemoryCourt court, ModelCourt model, StringBuilder story) {
        int[] kinds = {0, 1, 2, 3, 6, 8, 9, 7, 36, 37, 38};
        for (int kind : kinds) {
            if (below(3) > 0) {
                continue;
            }
            boolean many = kind == 1 || kind == 2 || kind == 6 || kind == 8;
            for (int i = 0; i < size(kind, model); i++) {
                for (int what = 0; what < (many ? 10 : 1); what++) {
                    used -= 1;
                    if (!answersAlike(court, model, kind, fineOr(kind, i, model), what, 0, story)) {
                        return false;
                    }
                }
            }
        }
        return true;
    }

    // ---- setups

    private static String setup() {
        StringBuilder b = new StringBuilder();
        int pages = oneOf(4, 5, 8, 12, 20, 30, 64);
        b.append("pages").append(gap(true)).append(pages).append(gap(false)).append(';');
        int processes = below(9);
        String[] names = {"p", "q", "ab", "abc", "pagez", "sixsix", "as", "askk"};
        for (int i = 0; i < processes; i++) {
            b.append(gap(false)).append("process").append(gap(true)).append(names[i]).append(';');
        }
        String[] once = {"every", "base", "fade", "patience", "appeal", "order"};
        int[] low = {1, 1, 1, 1, 0, 0}, high = {50, 100, 99, 20, 99, 2}, small = {6, 100, 30, 6, 99, 2};
        for (int i = 0; i < once.length; i++) {
            if (below(3) > 0) {
                int value = between(low[i], below(3) == 0 ? high[i] : small[i]);
                String told = i == 5 ? ModelCourt.ORDERS.get(value) : "" + value;
                b.append(once[i]).append(gap(true)).append(told).append(gap(false)).append(';');
            }
        }
        int left = pages;
        int loans = processes == 0 ? 0 : below(below(4) == 0 ? 22 : 7);
        for (int i = 0; i < loans && left > 0; i++) {
            int size = between(1, Math.max(1, below(3) == 0 ? left : Math.min(left, 3)));
            left -= size;
            b.append("loan ").append(names[below(processes)]).append(gap(true)).append(size);
            b.append(gap(true)).append(between(1, below(3) == 0 ? 99 : 9)).append(';');
        }
        int claims = processes == 0 ? 0 : below(below(4) == 0 ? 62 : 7);
        for (int i = 0; i < claims; i++) {
            b.append("ask ").append(names[below(processes)]).append(gap(true));
            b.append(between(1, below(3) == 0 ? pages : Math.min(pages, 5)));
            b.append(gap(true)).append(between(1, below(3) == 0 ? 99 : 9)).append(';');
        }
        return b.toString();
    }

    private static String gap(boolean needed) {
        return oneOf(0, 0, 0, 1) == 0 ? needed ? " " : "" : new String[] {"  ", "\n", " \n "}[below(3)];
    }

    /** Seldom changes a byte or a word of a text, or cuts it off. */
    private static String spoilt(String text) {
        StringBuilder b = new StringBuilder(text.length() > 600 ? text.substring(0, 600) : text);
        int faults = below(4) == 0 ? between(1, 2) : 0;
        for (int i = 0; i < faults && b.length() > 0; i++) {
            int at = below(b.length());
            switch (below(5)) {
                case 0 -> b.setCharAt(at, (char) oneOf('a', 'p', ';', ' ', 10, '0', '1', '9', 'A', 0, 9, 13, 255));
                case 1 -> b.deleteCharAt(at);
                case 2 -> b.setLength(at);
                case 3 -> b.insert(at, new String[] {"0", "1", "a", ";", " ", "999", "1000", "every", "process", "order"}[below(10)]);
                default -> {
                    int next = b.indexOf(";", at);
                    if (next >= 0) {
                        b.insert(next + 1, new String[] {"every 3;", "process p;", "loan p 1 1;", "ask zz 1 1;", "order small;",
                            "pages 9;", "ask p 0 1;", "loan ask 1 1;", "process first;", "loan q 1 100;", ";"}[below(11)]);
                    }
                }
            }
        }
        return b.length() > 600 ? b.substring(0, 600) : b.toString();
    }

    private static void feed(MemoryCourt court, ModelCourt model, String text) {
        court.truncate(0);
        model.truncate(0);
        for (int i = 0; i < text.length(); i += 20) {
            int[] w = new int[5];
            for (int j = 0; j < 20; j++) {
                w[j / 4] = w[j / 4] << 8 | (i + j < text.length() ? text.charAt(i + j) : 0);
            }
            court.feed(w[0], w[1], w[2], w[3], w[4]);
            used++;
            model.feed(w[0], w[1], w[2], w[3], w[4]);
        }
        court.truncate(text.length());
        model.truncate(text.length());
        used += 2;
    }

    // ---- arguments, fit for the state that the model is in

    private static int first(int kind, ModelCourt m) {
        int processes = m.s.processes.size(), loans = m.s.loans.size(), claims = m.s.claims.size(), fines = m.s.fines.size();
        switch (kind) {
            case 0: return index(21);
            case 1: case 10: case 19: case 23: case 31: case 33: case 37: return index(processes);
            case 2: case 4: case 5: case 21: case 22: case 30: case 35: return index(loans);
            case 3: return index(m.s.pages);
            case 6: case 20: case 28: case 29: return index(claims);
            case 7: return index(1 + m.count(14));
            case 8: case 9: case 24: case 36: return below(4) == 0 ? index(fines) : fines - 1 - below(Math.max(1, Math.min(fines + 1, 42)));
            case 18: return below(10) == 0 ? ranged(1, 500) : between(1, below(2) == 0 ? 7 : 40);
            case 25: return ranged(0, 2);
            case 32: case 34: return ranged(1, below(2) == 0 ? 500 : 20);
            case 38: return index(40);
            case 41: return below(4) == 0 ? ranged(0, 700) : below(21);
            default: return oneOf(0, 1884495872, -1, 1886401122);
        }
    }

    private static int second(int kind, ModelCourt m) {
        switch (kind) {
            case 1: return index(10);
            case 2: return index(8);
            case 4: return index(6);
            case 6: return index(7);
            case 8: return index(8);
            case 10: return below(10) == 0 ? index(2001) : index(m.s.time + 2);
            case 19: return ranged(1, below(2) == 0 ? m.s.pages : Math.min(6, m.s.pages));
            case 21: return ranged(1, below(2) == 0 ? 8 : 1);
            case 22: return ranged(1, 99);
            case 23: return ranged(0, below(2) == 0 ? 99 : 5);
            case 28: case 29: return ranged(1, below(2) == 0 ? 500 : 20);
            case 33: return ranged(1, below(2) == 0 ? 500 : 20);
            case 35: return index(m.s.claims.size());
            default: return below(5);
        }
    }

    private static int third(int kind) {
        return kind == 19 ? ranged(1, below(2) == 0 ? 99 : 9) : kind == 33 ? index(3) : below(3);
    }

    // ---- answers

    private interface Call {
        String make();
    }

    private static String guarded(Call call) {
        try {
            return call.make();
        } catch (RuntimeException e) {
            String name = e.getClass().getSimpleName();
            switch (name) {
                case "IndexOutOfBoundsException": return "IOB";
                case "IllegalArgumentException": return "IAE";
                case "IllegalStateException": return "ISE";
                case "NoSuchElementException": return "NSE";
                default: return name;
            }
        }
    }

    private static String answer(MemoryCourt x, int kind, int a, int b, int c) {
        return guarded(() -> {
            switch (kind) {
                case 0: return "" + x.count(a);
                case 1: return "" + x.process(a, b);
                case 2: return "" + x.loan(a, b);
                case 3: return "" + x.page(a);
                case 4: return "" + x.pageOf(a, b);
                case 5: return "" + x.pieces(a);
                case 6: return "" + x.claim(a, b);
                case 7: return "" + x.waiting(a);
                case 8: return "" + x.fine(a, b);
                case 9: return "" + x.evidence(a);
                case 10: return "" + x.wasStalled(a, b);
                case 11: return x.longestFree() + " " + x.nextHearing();
                case 12: return x.shortage() + " " + x.overdue();
                case 13: return "" + x.firstBroken();
                case 14: return "" + x.worst();
                case 15: return x.meanLate() + " " + x.metShare();
                case 16: return x.errorCode() + " " + x.errorOffset();
                case 17: case 18: return "" + x.run(kind == 17 ? 1 : a);
                case 19: return "" + x.ask(a, b, c);
                case 20: return "" + x.withdraw(a);
                case 21: return "" + x.giveBack(a, b);
                case 22: return "" + x.renew(a, b);
                case 23: return "" + x.stall(a, b);
                case 24: return "" + x.appeal(a);
                case 25: return "" + x.setOrder(a);
                case 26: case 27: return "" + x.undo();
                case 28: return "" + x.metIn(a, b);
                case 29: return "" + x.refusedIn(a, b);
                case 30: return "" + x.wouldFine(a);
                case 31: return "" + x.wouldPay(a);
                case 32: return "" + x.freeIn(a);
                case 33: return "" + x.processIn(a, b, c);
                case 34: return "" + x.bestOrder(a);
                case 35: return "" + x.helps(a, b);
                case 36: return "" + x.wouldAppeal(a);
                case 37: return "" + x.printProcess(a);
                case 38: return "" + x.outputByte(a);
                case 39: return c > 0 ? "" : "" + x.saveState();
                case 40: return c > 0 ? "" : "" + x.restoreState();
                case 41: return "" + x.truncate(a);
                default: return b == 0 ? "" + x.find() : "" + x.feed(a, b, c, a, b);
            }
        });
    }

    private static String answer(ModelCourt x, int kind, int a, int b, int c) {
        return guarded(() -> {
            switch (kind) {
                case 0: return "" + x.count(a);
                case 1: return "" + x.process(a, b);
                case 2: return "" + x.loan(a, b);
                case 3: return "" + x.page(a);
                case 4: return "" + x.pageOf(a, b);
                case 5: return "" + x.pieces(a);
                case 6: return "" + x.claim(a, b);
                case 7: return "" + x.waiting(a);
                case 8: return "" + x.fine(a, b);
                case 9: return "" + x.evidence(a);
                case 10: return "" + x.wasStalled(a, b);
                case 11: return x.longestFree() + " " + x.nextHearing();
                case 12: return x.shortage() + " " + x.overdue();
                case 13: return "" + x.firstBroken();
                case 14: return "" + x.worst();
                case 15: return x.meanLate() + " " + x.metShare();
                case 16: return x.code + " " + x.offset;
                case 17: case 18: return "" + x.run(kind == 17 ? 1 : a);
                case 19: return "" + x.ask(a, b, c);
                case 20: return "" + x.withdraw(a);
                case 21: return "" + x.giveBack(a, b);
                case 22: return "" + x.renew(a, b);
                case 23: return "" + x.stall(a, b);
                case 24: return "" + x.appeal(a);
                case 25: return "" + x.setOrder(a);
                case 26: case 27: return "" + x.undo();
                case 28: return "" + x.metIn(a, b);
                case 29: return "" + x.refusedIn(a, b);
                case 30: return "" + x.wouldFine(a);
                case 31: return "" + x.wouldPay(a);
                case 32: return "" + x.freeIn(a);
                case 33: return "" + x.processIn(a, b, c);
                case 34: return "" + x.bestOrder(a);
                case 35: return "" + x.helps(a, b);
                case 36: return "" + x.wouldAppeal(a);
                case 37: return "" + x.printProcess(a);
                case 38: return "" + x.outputByte(a);
                case 39: return c > 0 ? "" : "" + x.saveState();
                case 40: return c > 0 ? "" : "" + x.restoreState();
                case 41: return "" + x.truncate(a);
                default: return b == 0 ? "" + x.find() : "" + x.feed(a, b, c, a, b);
            }
        });
    }

    private static int fineOr(int kind, int i, ModelCourt m) {
        return kind == 8 || kind == 9 || kind == 36 ? m.s.fines.size() - i : i;
    }

    private static int size(int kind, ModelCourt m) {
        switch (kind) {
            case 0: return 22;
            case 1: case 37: return m.s.processes.size() + 1;
            case 2: return m.s.loans.size() + 1;
            case 3: return m.s.pages + 1;
            case 6: return m.s.claims.size() + 1;
            case 7: return m.count(14) + 1;
            case 38: return 60;
            default: return 43;
        }
    }
}
