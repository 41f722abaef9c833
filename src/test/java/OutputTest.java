/** Promises 45 to 48: the output, and states that are saved and restored. */
public final class OutputTest {
    public static void main(String[] args) {
        promise45();
        promise46();
        promises47And48();
        Check.finish("OutputTest");
    }

    private static void promise45() {
        Check.at("promise 45");
        MemoryCourt x = Check.court("pages 64;process p;process longer;every 3;base 100;fade 99;"
            + "loan longer 12 2;loan p 1 3;loan longer 3 99;loan longer 1 5;loan p 10 4;");
        printed(x, 0, "p 0 0 1@3 10@4");
        printed(x, 1, "longer 0 0 12@2 3@99 1@5");
        x.run(3);
        printed(x, 1, "longer 12 12 12@2! 3@99 1@5");
        x.giveBack(0, 12);
        printed(x, 1, "longer 12 12 3@99 1@5");
        x.run(3);
        x.giveBack(4, 9);
        printed(x, 0, "p 23 24 1@3! 1@4!");
        Check.noIndex(() -> x.printProcess(2));
        Check.noIndex(() -> x.printProcess(-1));
        Check.equal(Check.output(x), "p 23 24 1@3! 1@4!");
        // Due times of more digits, and a record and a bar of three.
        MemoryCourt y = Check.court("pages 64;process p;process q;every 50;base 100;fade 99;loan p 60 1;loan q 1 99;");
        for (int i = 0; i < 12; i++) {
            y.renew(1, 99);
        }
        y.run(50);
        printed(y, 0, "p 999 200 60@1!");
        printed(y, 1, "q 0 0 1@1287");
        // Many loans are a long text.
        MemoryCourt z = Check.court("pages 64;process abcdef;every 1;");
        StringBuilder due = new StringBuilder("abcdef 60 60");
        for (int i = 0; i < 60; i++) {
            z.ask(0, 1, 99);
            due.append(" 1@100!");
        }
        z.run(1);
        z.run(100);
        printed(z, 0, due.toString());
    }

    private static void printed(MemoryCourt x, int process, String due) {
        Check.equal(x.printProcess(process), due.length());
        Check.equal(Check.output(x), due);
    }

    private static void promise46() {
        Check.at("promise 46");
        MemoryCourt x = Check.court("pages 9;process p;process qq;loan p 1 9;");
        Check.all("-1 -1", x.outputByte(0), x.outputByte(-1));
        Check.equal(x.printProcess(0), 9);
        Check.all("112 32 48 32 48 32 49 64 57 -1", x.outputByte(0), x.outputByte(1), x.outputByte(2), x.outputByte(3),
            x.outputByte(4), x.outputByte(5), x.outputByte(6), x.outputByte(7), x.outputByte(8), x.outputByte(9));
        Check.equal(x.printProcess(1), 6);
        Check.all("113 48 -1 -1 -1", x.outputByte(1), x.outputByte(5), x.outputByte(6), x.outputByte(8), x.outputByte(-1));
        Check.all("-1 -1 -1", x.outputByte(Integer.MIN_VALUE), x.outputByte(Integer.MAX_VALUE), x.outputByte(600));
        x.run(5);
        x.undo();
        Check.equal(Check.output(x), "qq 0 0");
        Check.input(x, "pages 4;");
        x.parse();
        Check.equal(Check.output(x), "qq 0 0");
    }

    private static String all(MemoryCourt x) {
        StringBuilder b = new StringBuilder();
        String counts = Check.counts(x);
        b.append(counts, 0, counts.lastIndexOf(' '));
        for (int i = 0; i < x.count(0); i++) {
            b.append(' ').append(x.page(i));
        }
        for (int i = 0; i < x.count(1); i++) {
            b.append('|').append(Check.processOf(x, i));
            for (int time = 0; time <= 60; time++) {
                b.append(x.wasStalled(i, time) ? 1 : 0);
            }
        }
        for (int i = 0; i < x.count(10); i++) {
            b.append('|').append(Check.loanOf(x, i));
        }
        for (int i = 0; i < x.count(13); i++) {
            b.append('|').append(Check.claimOf(x, i));
        }
        for (int i = 0; i < x.count(18); i++) {
            b.append('|').append(Check.fineOf(x, i)).append(' ').append(x.evidence(i)).append(' ').append(x.wouldAppeal(i));
        }
        return b.toString();
    }

    /** A court behind the first steps of one story; a new one each time, as one has not calls for all views. */
    private static MemoryCourt behind(int steps) {
        MemoryCourt x = Check.court("pages 9;process p;process q;every 3;fade 4;loan p 2 2;loan q 3 20;ask q 2 5;ask q 9 9;");
        Check.noState(x::restoreState);
        x.stall(0, 3);
        x.run(4);
        x.appeal(0);
        x.setOrder(2);
        for (int step = 1; step <= steps; step++) {
            take(x, step);
        }
        return x;
    }

    private static void take(MemoryCourt x, int step) {
        switch (step) {
            case 1:
                Check.all("4 4", x.saveState(), x.count(20));
                break;
            case 2:
                // The changes go on and can be undone, also those before the saving.
                x.stall(1, 9);
                x.run(20);
                Check.all("5 4 3 2 1", x.undo(), x.undo(), x.undo(), x.undo(), x.undo());
                Check.all("1 0 false", x.count(20), x.count(2), x.wasStalled(0, 1));
                break;
            case 3:
                x.stall(0, 0);
                x.stall(1, 5);
                x.run(9);
                x.giveBack(1, 1);
                x.setOrder(1);
                x.printProcess(0);
                Check.input(x, "q");
                break;
            case 4:
                Check.all("4 0", x.restoreState(), x.count(20));
                break;
            case 5:
                // The state stays saved.
                x.run(5);
                Check.all("4 0", x.restoreState(), x.count(20));
                break;
            case 6:
                x.run(7);
                break;
            case 7:
                // In place of an earlier one.
                Check.all("11 1 0", x.saveState(), x.count(20), x.undo());
                break;
            case 8:
                Check.all("11 0", x.restoreState(), x.count(20));
                break;
            default:
                break;
        }
    }

    private static void promises47And48() {
        Check.at("promises 47 and 48");
        String saved = all(behind(0)), later = all(behind(6));
        int[] steps = {1, 4, 5, 7};
        for (int step : steps) {
            Check.equal(all(behind(step)), saved);
        }
        Check.equal(all(behind(8)), later);
        Check.equal(later.equals(saved), false);
        Check.equal(all(behind(3)).equals(saved), false);
        Check.noState(behind(4)::undo);
        Check.noState(behind(5)::undo);
        Check.noState(behind(8)::undo);
        // The buffer, the error and the output stay.
        MemoryCourt before = behind(3), x = behind(4);
        Check.equal(Check.output(x), Check.output(before));
        Check.all("0 -1 1", x.errorCode(), x.errorOffset(), x.find());
        MemoryCourt y = behind(8);
        y.stall(0, 1);
        Check.all("1 0", y.count(20), y.undo());
        // parse forgets it only when it succeeds; the error stays.
        Check.input(y, "pages 1;");
        Check.all("-1 11 2 6", y.parse(), y.restoreState(), y.errorCode(), y.errorOffset());
        Check.input(y, "pages 4;");
        Check.equal(y.parse(), 0);
        Check.noState(y::restoreState);
        Check.all("0 0", y.saveState(), y.restoreState());
    }
}
