/** Promises 1 to 6 and 8: a new object, the input buffer, the setup text and names. */
public final class SetupTest {
    public static void main(String[] args) {
        promise1();
        promise2();
        promise3();
        promise4();
        grammar();
        offsets();
        ranges();
        names();
        limits();
        promise5And6();
        promise8();
        Check.finish("SetupTest");
    }

    private static void promise1() {
        Check.at("promise 1");
        MemoryCourt x = new MemoryCourt();
        String fresh = "4 0 0 0 5 10 20 3 10 4 0 0 0 0 0 0 0 0 0 0 0";
        Check.equal(Check.counts(x), fresh);
        Check.equal(Check.counts(Check.court("pages 4;")), fresh);
        Check.all("-1 -1 -1 -1", x.page(0), x.page(1), x.page(2), x.page(3));
        Check.noIndex(() -> x.page(4));
        Check.all("true false", x.truncate(0), x.truncate(1));
        Check.all("0 -1 -1", x.errorCode(), x.errorOffset(), x.outputByte(0));
        Check.noState(x::restoreState);
        Check.noState(x::undo);
        MemoryCourt y = new MemoryCourt();
        x.run(9);
        Check.all("9 0", x.count(2), y.count(2));
    }

    private static void promise2() {
        Check.at("promise 2");
        MemoryCourt x = new MemoryCourt();
        // "pages 9;process pq; " with the most significant byte first.
        Check.equal(x.feed(0x70616765, 0x7320393b, 0x70726f63, 0x65737320, 0x70713b20), 20);
        Check.all("1 9", x.parse(), x.count(0));
        for (int i = 1; i <= 30; i++) {
            Check.equal(x.feed(0x20202020, 0x20202020, 0x0a0a0a0a, 0, -1), 20 * i);
        }
        Check.equal(x.feed(0, 0, 0, 0, 0), -1);
        Check.all("true -1", x.truncate(581), x.feed(0, 0, 0, 0, 0));
        Check.all("true 600", x.truncate(580), x.feed(0, 0, 0, 0, 0));
        Check.all("false true", x.truncate(601), x.truncate(600));
        // What does not fit leaves the content as it was.
        Check.input(x, "pq");
        Check.equal(x.find(), 0);
        StringBuilder long600 = new StringBuilder("pages 9;");
        while (long600.length() < 599) {
            long600.append(' ');
        }
        long600.append(';');
        Check.input(x, long600.toString());
        Check.equal(x.feed(1, 2, 3, 4, 5), -1);
        Check.all("-1 1 599", x.parse(), x.errorCode(), x.errorOffset());
        // All bytes of a word, the ones above 127 too.
        x.feed(0x80ff7a41, 0, 0, 0, 0);
        Check.all("true -1 1 0", x.truncate(4), x.parse(), x.errorCode(), x.errorOffset());
    }

    private static void promise3() {
        Check.at("promise 3");
        MemoryCourt x = new MemoryCourt();
        Check.all("true false false", x.truncate(0), x.truncate(1), x.truncate(-1));
        x.feed(0x70616765, 0x73203939, 0x3b3b3b3b, 0, 0);
        Check.all("false false false", x.truncate(21), x.truncate(Integer.MIN_VALUE), x.truncate(Integer.MAX_VALUE));
        Check.all("true true 40", x.truncate(20), x.truncate(20), x.feed(0, 0, 0, 0, 0));
        Check.all("true true false", x.truncate(21), x.truncate(7), x.truncate(8));
        // The first bytes stay: "pages 9", then ";" behind it.
        Check.equal(x.feed(0x3b202020, 0x20202020, 0x20202020, 0x20202020, 0x20202020), 27);
        Check.all("0 9", x.parse(), x.count(0));
    }

    private static void promise4() {
        Check.at("promise 4");
        MemoryCourt x = Check.court("pages 9;process p;process q;every 2;base 7;fade 3;patience 4;appeal 6;order small;"
            + "loan p 4 1;loan q 2 50;ask q 2 5;ask p 9 99;");
        Check.equal(Check.counts(x), "9 2 0 1 2 7 3 4 6 3 2 2 0 2 2 0 0 0 0 0 0");
        Check.all("0 4 1 0 -1 0 0 4", Check.loanOf(x, 0));
        Check.all("1 2 50 0 -1 0 0 2", Check.loanOf(x, 1));
        Check.all("1 2 5 0 0 -1 0", Check.claimOf(x, 0));
        Check.all("0 9 99 0 0 -1 0", Check.claimOf(x, 1));
        Check.all("0 0 0 0 1 1 -1", x.page(0), x.page(1), x.page(2), x.page(3), x.page(4), x.page(5), x.page(6));
        // On an error everything but the buffer and the error is kept.
        x.stall(0, 3);
        x.run(4);
        x.saveState();
        x.printProcess(0);
        x.stall(1, 5);
        String counts = Check.counts(x), process = Check.processOf(x, 0), fine = Check.fineOf(x, 0), out = Check.output(x);
        Check.input(x, "pages 12;process z;every 9;loan z 3 3;ask z 0");
        Check.all("-1 2 44", x.parse(), x.errorCode(), x.errorOffset());
        Check.equal(x.truncate(1), false);
        Check.equal(Check.counts(x), counts);
        Check.all(process + "|" + fine + "|" + out,
            Check.processOf(x, 0) + "|" + Check.fineOf(x, 0) + "|" + Check.output(x));
        Check.input(x, "z");
        Check.equal(x.find(), -1);
        Check.input(x, "q");
        Check.equal(x.find(), 1);
        Check.equal(x.wasStalled(0, 2), true);
        Check.all("2 4", x.undo(), x.restoreState());
        // On success all is as at first, but for the output.
        x.stall(1, 5);
        Check.input(x, "pages 12;process z;");
        Check.all("1 0 -1", x.parse(), x.errorCode(), x.errorOffset());
        Check.equal(Check.counts(x), "12 1 0 0 5 10 20 3 10 12 0 0 0 0 0 0 0 0 0 0 0");
        Check.all("0 0 0 0 0 0 0 0 0 0", Check.processOf(x, 0));
        Check.equal(Check.output(x), out);
        Check.all("false -1", x.wasStalled(0, 2), x.page(0));
        Check.noState(x::restoreState);
        Check.noState(x::undo);
        Check.noIndex(() -> x.process(1, 0));
        Check.noIndex(() -> x.loan(0, 0));
        Check.noElement(() -> x.fine(0, 0));
        Check.equal(x.truncate(1), false);
        Check.input(x, "p");
        Check.equal(x.find(), -1);
        // The hearing before was another court's.
        Check.input(x, "pages 9;process p;loan p 1 1;every 3;");
        x.parse();
        x.run(3);
        Check.all("0 0 2 1 3 1 0 1", Check.fineOf(x, 0));
    }

    private static void grammar() {
        Check.at("promise 4, grammar");
        Check.equal(Check.parsed("pages 4;"), "0 0 -1");
        Check.equal(Check.parsed("pages4;"), "0 0 -1");
        Check.equal(Check.parsed(" \n pages\n\n4 ;\n "), "0 0 -1");
        Check.equal(Check.parsed("pages 004;process p;loan p 1 1;"), "1 0 -1");
        Check.equal(Check.parsed("pages 9;loan p 1 1;process p;"), "-1 3 13");
        Check.equal(Check.parsed("pages 9;process p;loan p1 1;"), "1 0 -1");
        Check.equal(Check.parsed("pages 9;process p;loan p 11;"), "-1 2 25");
        Check.equal(Check.parsed("pages 9;process p;loan p 1;"), "-1 1 26");
        Check.equal(Check.parsed("pages 9;order first;"), "0 0 -1");
        Check.equal(Check.parsed("pages 9;order clean"), "-1 1 19");
        Check.equal(Check.parsed("pages 9;appeal 0;every 50;base 100;fade 99;patience 20;"), "0 0 -1");
        Check.equal(Check.parsed("pages 9;;"), "-1 1 8");
        Check.equal(Check.parsed("pages 9;9"), "-1 1 8");
        Check.equal(Check.parsed("pages 9;small;"), "-1 1 8");
        Check.equal(Check.parsed("pages 9;p;"), "-1 1 8");
        Check.equal(Check.parsed("pages 9 9;"), "-1 1 8");
        Check.equal(Check.parsed("pages p;"), "-1 1 6");
        Check.equal(Check.parsed("every 9;"), "-1 1 0");
        Check.equal(Check.parsed("pagess 9;"), "-1 1 0");
        Check.equal(Check.parsed("Pages 9;"), "-1 1 0");
        Check.equal(Check.parsed("pages\t9;"), "-1 1 5");
        Check.equal(Check.parsed("pages 9;\r"), "-1 1 8");
        Check.equal(Check.parsed("pages 9;\0"), "-1 1 8");
        Check.equal(Check.parsed("pages 9;process p; \u00e9"), "-1 1 19");
        Check.equal(Check.parsed("pages 9;process pQ;"), "-1 1 17");
        Check.equal(Check.parsed("pages 9;process p-q;"), "-1 1 17");
        MemoryCourt x = Check.court("pages 9;order clean;");
        Check.equal(x.count(3), 2);
        Check.equal(Check.court("pages 9;order first;").count(3), 0);
    }

    private static void offsets() {
        Check.at("promises 5 and 6, offsets");
        Check.equal(Check.parsed(""), "-1 1 0");
        Check.equal(Check.parsed("  "), "-1 1 2");
        Check.equal(Check.parsed("pages 9;process  "), "-1 1 17");
        Check.equal(Check.parsed("pages 9;process p \n"), "-1 1 19");
        Check.equal(Check.parsed("pages 9;process p;ask p 1 \n1"), "-1 1 28");
        Check.equal(Check.parsed("pages 9;  every   51 ; base 0;"), "-1 2 18");
        // The first error from the left, whatever its code.
        Check.equal(Check.parsed("pages 99;process p;process p;?"), "-1 2 6");
        Check.equal(Check.parsed("pages 9;process p;process p;?"), "-1 3 26");
    }

    private static void ranges() {
        Check.at("promise 4, ranges");
        String[] kinds = {"pages", "every", "base", "fade", "patience", "appeal"};
        int[] low = {4, 1, 1, 1, 1, 0}, high = {64, 50, 100, 99, 20, 99}, what = {0, 4, 5, 6, 7, 8};
        for (int i = 0; i < kinds.length; i++) {
            String head = (i == 0 ? "" : "pages 9;") + kinds[i] + " ";
            Check.equal(Check.court(head + low[i] + ";").count(what[i]), low[i]);
            Check.equal(Check.court(head + high[i] + ";").count(what[i]), high[i]);
            if (low[i] > 0) {
                Check.equal(Check.parsed(head + (low[i] - 1) + ";"), "-1 2 " + head.length());
            }
            Check.equal(Check.parsed(head + (high[i] + 1) + ";"), "-1 2 " + head.length());
            Check.equal(Check.parsed(head + "999;"), "-1 2 " + head.length());
            // Too long is 1, be it in the range or not.
            Check.equal(Check.parsed(head + "0009;"), "-1 1 " + head.length());
            Check.equal(Check.parsed(head + "1000;"), "-1 1 " + head.length());
        }
        String p = "pages 9;process p;";
        Check.equal(Check.parsed(p + "loan p 9 99;"), "1 0 -1");
        Check.equal(Check.parsed(p + "loan p 0 1;"), "-1 2 25");
        Check.equal(Check.parsed(p + "loan p 10 1;"), "-1 2 25");
        Check.equal(Check.parsed(p + "loan p 1 0;"), "-1 2 27");
        Check.equal(Check.parsed(p + "loan p 1 100;"), "-1 2 27");
        Check.equal(Check.parsed(p + "loan p 5 1;loan p 4 1;"), "1 0 -1");
        Check.equal(Check.parsed(p + "loan p 5 1;loan p 5 1;"), "-1 2 36");
        Check.equal(Check.parsed(p + "loan p 9 1;loan p 0 1;"), "-1 2 36");
        // A claim may ask for pages that are not free.
        Check.equal(Check.parsed(p + "loan p 9 1;ask p 9 99;"), "1 0 -1");
        Check.equal(Check.parsed(p + "ask p 10 1;"), "-1 2 24");
        Check.equal(Check.parsed(p + "ask p 0 1;"), "-1 2 24");
        Check.equal(Check.parsed(p + "ask p 1 0;"), "-1 2 26");
        Check.equal(Check.parsed(p + "ask p 1 100;"), "-1 2 26");
        Check.equal(Check.parsed(p + "ask p 1000 1;"), "-1 1 24");
        Check.equal(Check.parsed(p + "ask p 1 0001;"), "-1 1 26");
    }

    private static void names() {
        Check.at("promise 4, names");
        Check.equal(Check.parsed("pages 9;process abcdef;process a;process z;process abcdeg;"), "4 0 -1");
        Check.equal(Check.parsed("pages 9;process abcdefg;"), "-1 1 16");
        String[] quoted = {"pages", "process", "every", "base", "fade", "patience", "appeal", "order", "first", "small",
            "clean", "loan", "ask"};
        for (String word : quoted) {
            Check.equal(Check.parsed("pages 9;process " + word + ";"), "-1 1 16");
            Check.equal(Check.parsed("pages 9;ask " + word + " 1 1;"), "-1 1 12");
            Check.equal(Check.parsed("pages 9;loan " + word + " 1 1;"), "-1 1 13");
        }
        Check.equal(Check.parsed("pages 9;process page;process asks;process fir;process o;"), "4 0 -1");
        // One letter beside a quoted word is a name like any other.
        for (String near : new String[] {"bages", "pagis", "svery", "loam", "aoan", "isk", "asl", "klean", "smell", "ordes"}) {
            Check.equal(Check.parsed("pages 9;process " + near + ";ask " + near + " 1 1;"), "1 0 -1");
        }
        Check.equal(Check.parsed("pages 9;process 9;"), "-1 1 16");
        Check.equal(Check.parsed("pages 9;process ab;process a;process ab;"), "-1 3 37");
        Check.equal(Check.parsed("pages 9;process ab;loan a 1 1;"), "-1 3 24");
        Check.equal(Check.parsed("pages 9;process ab;ask abc 1 1;"), "-1 3 23");
        Check.equal(Check.parsed("pages 9;process ab;ask abcdefg 1 1;"), "-1 1 23");
        Check.equal(Check.parsed("pages 9;process ab;ask 1 1 1;"), "-1 1 23");
        Check.equal(Check.parsed("pages 9;process ab;ask "), "-1 1 23");
        for (String once : new String[] {"every 1", "base 1", "fade 1", "patience 1", "appeal 1", "order first"}) {
            String head = "pages 9;" + once + ";process p;";
            Check.equal(Check.parsed(head + once + ";"), "-1 3 " + head.length());
        }
        Check.equal(Check.parsed("pages 9;pages 9;"), "-1 1 8");
    }

    private static void limits() {
        Check.at("promise 4, limits");
        StringBuilder b = new StringBuilder("pages 64;");
        for (char c = 'a'; c <= 'h'; c++) {
            b.append("process ").append(c).append(';');
        }
        Check.equal(Check.parsed(b.toString()), "8 0 -1");
        Check.equal(Check.parsed(b + "process;"), "-1 4 " + b.length());
        Check.equal(Check.parsed(b + "process a;"), "-1 4 " + b.length());
        b = new StringBuilder("pages 64;process a;");
        for (int i = 0; i < 20; i++) {
            b.append("loan a 1 1;");
        }
        Check.equal(Check.parsed(b.toString()), "1 0 -1");
        Check.equal(Check.parsed(b + "loan b 1 1;"), "-1 4 " + b.length());
        b = new StringBuilder("pages 64;process a;");
        for (int i = 0; i < 57; i++) {
            b.append("ask a 1 1;");
        }
        Check.equal(Check.parsed(b.toString()), "1 0 -1");
        // Sixty claims need the short form: a number may follow the name at once.
        b = new StringBuilder("pages 9;process a;");
        for (int i = 0; i < 60; i++) {
            b.append("ask a1 1;");
        }
        Check.equal(b.length(), 558);
        Check.equal(Check.parsed(b.toString()), "1 0 -1");
        Check.equal(Check.court(b.toString()).count(13), 60);
        Check.equal(Check.parsed(b + "ask a1 1;"), "-1 4 558");
        Check.equal(Check.parsed(b + "loan a1 1;every 2;"), "1 0 -1");
    }

    private static void promise5And6() {
        Check.at("promises 5 and 6");
        MemoryCourt x = new MemoryCourt();
        Check.input(x, "pages 3;");
        Check.all("-1 2 6", x.parse(), x.errorCode(), x.errorOffset());
        x.run(1);
        x.undo();
        x.find();
        Check.all("2 6", x.errorCode(), x.errorOffset());
        Check.input(x, "pages 4;");
        Check.all("2 6 0 0 -1", x.errorCode(), x.errorOffset(), x.parse(), x.errorCode(), x.errorOffset());
        Check.all("-1 1 0", x.parse(), x.errorCode(), x.errorOffset());
    }

    private static void promise8() {
        Check.at("promise 8");
        MemoryCourt x = Check.court("pages 9;process ab;process a;process abcdef;");
        String[] names = {"ab", "a", "abcdef", "abc", "b", "", "abcdefg", " a", "a ", "a\n", "a\0", "\0", "A"};
        int[] due = {0, 1, 2, -1, -1, -1, -1, -1, -1, -1, -1, -1, -1};
        for (int i = 0; i < names.length; i++) {
            Check.input(x, names[i]);
            Check.all(due[i] + " false", x.find(), x.truncate(1));
        }
        Check.equal(x.count(20), 0);
    }
}
