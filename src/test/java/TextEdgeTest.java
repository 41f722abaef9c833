/**
 * The edges of section 1 and of the promises 1 to 6 and 8: a test for each sentence that names one, on
 * both of its sides. Its sentence stands over a test.
 */
public final class TextEdgeTest {
    private static final String GOOD = " 0 -1";

    public static void main(String[] args) throws Exception {
        Check.tests(TextEdgeTest.class);
    }

    private static String times(int count, String part) {
        return part.repeat(count);
    }

    /** A number of the court of a text. */
    private static int counted(String text, int what) {
        return Check.court(text).count(what);
    }

    /** Tries a number at its place: too small, the smallest, the greatest and too great; -1 stands for none. */
    private static void ranged(String head, int low, int high, String tail, int processes) {
        if (low > 0) {
            Check.equal(Check.parsed(head + (low - 1) + tail), "-1 2 " + head.length());
        }
        Check.equal(Check.parsed(head + low + tail), processes + GOOD);
        Check.equal(Check.parsed(head + high + tail), processes + GOOD);
        Check.equal(Check.parsed(head + (high + 1) + tail), "-1 2 " + head.length());
    }

    // ---- section 1

    // The input buffer holds at most 600 bytes.
    private static void bufferHolds600Bytes() {
        MemoryCourt x = new MemoryCourt();
        for (int i = 1; i <= 30; i++) {
            Check.equal(x.feed(0, 0, 0, 0, 0), 20 * i);
        }
        Check.all("-1 true false", x.feed(0, 0, 0, 0, 0), x.truncate(600), x.truncate(601));
        // A text that fills the buffer is read up to its last byte.
        String full = "pages 9" + times(592, " ") + ";";
        Check.all("600 0 0 -1", full.length() + " " + Check.parsed(full));
        Check.equal(Check.parsed("pages 9" + times(592, " ") + "!"), "-1 1 599");
        Check.equal(Check.parsed("pages 9" + times(593, " ")), "-1 1 600");
        Check.equal(Check.parsed("pages 9;every 7;" + times(584, "\n")), "0 0 -1");
    }

    // Text in quotes stands for itself, braces mean any number of times, | separates alternatives.
    private static void statementsStandAnyNumberOfTimes() {
        Check.equal(Check.parsed("pages 9;"), "0 0 -1");
        Check.equal(Check.parsed("pages 9;every 1;"), "0 0 -1");
        Check.equal(Check.parsed("pages 9;every 1;base 1;fade 1;patience 1;appeal 1;order small;process a;loan a 1 1;ask a 1 1;"),
            "1 0 -1");
        Check.equal(Check.parsed("pages 9;ask;"), "-1 1 11");
        Check.equal(Check.parsed("pages 9;every;"), "-1 1 13");
        Check.equal(Check.parsed("pages 9;order;"), "-1 1 13");
        Check.equal(Check.parsed("pages 9;order 1;"), "-1 1 14");
        Check.equal(Check.parsed("pages 9;order firs;"), "-1 1 14");
        Check.equal(Check.parsed("pages 9;order firsts;"), "-1 1 14");
        for (String word : new String[] {"first", "small", "clean"}) {
            Check.equal(Check.parsed("pages 9;order " + word + ";"), "0 0 -1");
        }
        Check.equal(Check.parsed("pages 9;order first small;"), "-1 1 20");
        Check.equal(Check.parsed(";"), "-1 1 0");
        Check.equal(Check.parsed("pages;"), "-1 1 5");
        Check.equal(Check.parsed("pages 9;;"), "-1 1 8");
    }

    // There are 4 to 64 pages.
    private static void pages4To64() {
        ranged("pages ", 4, 64, ";", 0);
        Check.equal(Check.parsed("pages 0;"), "-1 2 6");
        Check.equal(Check.parsed("pages 999;"), "-1 2 6");
        Check.all("4 64", counted("pages 4;", 0), counted("pages 64;", 0));
        Check.all("4 64", counted("pages 4;", 9), counted("pages 64;", 9));
    }

    // At most 8 processes, numbered from 0 in the order of the text.
    private static void atMost8Processes() {
        StringBuilder b = new StringBuilder("pages 9;");
        for (int i = 0; i < 8; i++) {
            Check.equal(Check.parsed(b.toString()), i + GOOD);
            b.append("process ").append((char) ('h' - i)).append(';');
        }
        Check.equal(Check.parsed(b.toString()), "8 0 -1");
        Check.equal(Check.parsed(b + "process i;"), "-1 4 88");
        MemoryCourt x = Check.court(b.toString());
        for (int i = 0; i < 8; i++) {
            Check.input(x, "" + (char) ('h' - i));
            Check.equal(x.find(), i);
        }
        Check.equal(x.process(7, 0), 0);
        Check.noIndex(() -> x.process(8, 0));
    }

    // every is 1 to 50 (5 without the statement)
    private static void every1To50() {
        ranged("pages 9;every ", 1, 50, ";", 0);
        Check.all("1 50 5", counted("pages 9;every 1;", 4), counted("pages 9;every 50;", 4), counted("pages 9;", 4));
        MemoryCourt x = Check.court("pages 9;");
        Check.all("5 0 0 0 1", x.nextHearing(), x.run(4), x.count(17), x.run(1), x.count(17));
    }

    // base is 1 to 100 (10)
    private static void base1To100() {
        ranged("pages 9;base ", 1, 100, ";", 0);
        Check.all("1 100 10", counted("pages 9;base 1;", 5), counted("pages 9;base 100;", 5), counted("pages 9;", 5));
        // Ten ticks of ten pages are fined with a tenth, without the statement.
        Check.equal(Check.court("pages 20;process p;every 11;loan p 10 1;").wouldFine(0), 10);
    }

    // fade is 1 to 99 (20)
    private static void fade1To99() {
        ranged("pages 9;fade ", 1, 99, ";", 0);
        Check.all("1 99 20", counted("pages 9;fade 1;", 6), counted("pages 9;fade 99;", 6), counted("pages 9;", 6));
        MemoryCourt x = Check.court("pages 9;process p;every 15;loan p 1 5;");
        x.run(15);
        x.giveBack(0, 1);
        Check.all("10 10 5", x.process(0, 0), x.processIn(0, 4, 0), x.processIn(0, 5, 0));
    }

    // patience is 1 to 20 (3)
    private static void patience1To20() {
        ranged("pages 9;patience ", 1, 20, ";", 0);
        Check.all("1 20 3", counted("pages 9;patience 1;", 7), counted("pages 9;patience 20;", 7), counted("pages 9;", 7));
        Check.equal(Check.court("pages 9;process p;every 1;loan p 9 99;ask p 1 1;").refusedIn(0, 99), 3);
    }

    // appeal is 0 to 99 (10)
    private static void appeal0To99() {
        ranged("pages 9;appeal ", 0, 99, ";", 0);
        Check.all("0 99 10", counted("pages 9;appeal 0;", 8), counted("pages 9;appeal 99;", 8), counted("pages 9;", 8));
        MemoryCourt x = Check.court("pages 9;process p;every 2;loan p 1 1;");
        x.run(2);
        x.run(10);
        Check.all("0", x.wouldAppeal(0));
        x.run(1);
        Check.all("-1", x.wouldAppeal(0));
    }

    // The order is first without a statement.
    private static void orderIsFirstWithout() {
        Check.all("0 0 1 2", counted("pages 9;", 3), counted("pages 9;order first;", 3), counted("pages 9;order small;", 3),
            counted("pages 9;order clean;", 3));
    }

    // "order" ( "first" | "small" | "clean" ): a setting sets its own number, wherever it stands, and no other one.
    private static void settingSetsItsOwnNumber() {
        String[] statements = {"every 2;", "base 3;", "fade 4;", "patience 6;", "appeal 7;", "order first;", "order small;", "order clean;"};
        String[] due = {"0 2 10 20 3 10", "0 5 3 20 3 10", "0 5 10 4 3 10", "0 5 10 20 6 10", "0 5 10 20 3 7", "0 5 10 20 3 10",
            "1 5 10 20 3 10", "2 5 10 20 3 10"};
        for (int i = 0; i < due.length; i++) {
            String rest = " 4 1 1 0 1 1 0 0 0 0 0 0";
            Check.equal(Check.counts(Check.court("pages 9;" + statements[i] + "process p;loan p 5 3;ask p 9 9;")), "9 1 0 " + due[i] + rest);
            Check.equal(Check.counts(Check.court("pages 9;process p;loan p 5 3;ask p 9 9;" + statements[i])), "9 1 0 " + due[i] + rest);
            // All free pages are there for a loan behind it.
            Check.equal(Check.parsed("pages 9;process p;" + statements[i] + "loan p 9 1;"), "1 0 -1");
        }
        // Behind the loans it holds from the first tick on.
        MemoryCourt x = Check.court("pages 9;process p;loan p 1 1;every 2;base 100;");
        x.run(2);
        Check.equal(Check.fineOf(x, 0), "0 0 1 1 2 1 0 1");
    }

    // Each of these six can stand once.
    private static void sixStandOnce() {
        String[] once = {"every 2;", "base 2;", "fade 2;", "patience 2;", "appeal 2;", "order small;"};
        String all = "pages 9;";
        for (String statement : once) {
            all += statement;
        }
        Check.equal(Check.parsed(all), "0 0 -1");
        Check.equal(Check.counts(Check.court(all)), "9 0 0 1 2 2 2 2 2 9 0 0 0 0 0 0 0 0 0 0 0");
        for (String statement : once) {
            Check.equal(Check.parsed("pages 9;" + statement), "0 0 -1");
            // It is the first word that is at fault, whatever comes behind it.
            Check.equal(Check.parsed("pages 9;" + statement + statement), "-1 3 " + (8 + statement.length()));
            Check.equal(Check.parsed(all + statement), "-1 3 " + all.length());
            String word = statement.substring(0, statement.indexOf(' '));
            Check.equal(Check.parsed(all + word + " 0;"), "-1 3 " + all.length());
            Check.equal(Check.parsed(all + " " + word), "-1 3 " + (all.length() + 1));
        }
        // process, loan and ask can stand more than once.
        Check.equal(Check.parsed("pages 9;process a;process b;loan a 1 1;loan a 1 1;ask a 1 1;ask a 1 1;"), "2 0 -1");
    }

    // "loan" tells a loan of a process at the time 0 ...; there are at most 20 of them.
    private static void atMost20Loans() {
        String head = "pages 64;process a;";
        Check.equal(counted(head, 10), 0);
        Check.equal(counted(head + "loan a 1 1;", 10), 1);
        String most = head + times(20, "loan a 1 1;");
        Check.all("20 20 44", counted(most, 10), counted(most, 11), counted(most, 9));
        Check.equal(Check.parsed(most + "loan a 1 1;"), "-1 4 239");
        Check.equal(Check.parsed(most + "loan"), "-1 4 239");
        Check.equal(Check.parsed(most + "ask a 1 1;"), "1 0 -1");
        MemoryCourt x = Check.court(most);
        Check.equal(Check.loanOf(x, 19), "0 1 1 0 -1 0 0 1");
        Check.noIndex(() -> x.loan(20, 0));
    }

    // The pages are 1 to those that are free then.
    private static void toldLoanHas1ToTheFreePages() {
        ranged("pages 9;process a;loan a ", 1, 9, " 1;", 1);
        ranged("pages 9;process a;loan a 3 1;loan a ", 1, 6, " 1;", 1);
        ranged("pages 64;process a;loan a ", 1, 64, " 1;", 1);
        ranged("pages 9;process a;loan a 8 1;loan a ", 1, 1, " 1;", 1);
        // None is free: no number is in the range.
        Check.equal(Check.parsed("pages 9;process a;loan a 9 1;loan a 0 1;"), "-1 2 36");
        Check.equal(Check.parsed("pages 9;process a;loan a 9 1;loan a 1 1;"), "-1 2 36");
        // The free pages are told ahead of the term.
        Check.equal(Check.parsed("pages 9;process a;loan a 10 100;"), "-1 2 25");
    }

    // The term is 1 to 99.
    private static void toldLoanHasATermOf1To99() {
        ranged("pages 9;process a;loan a 1 ", 1, 99, ";", 1);
        MemoryCourt x = Check.court("pages 9;process a;loan a 1 1;loan a 1 99;");
        Check.all("1 99", x.loan(0, 2), x.loan(1, 2));
    }

    // "ask" tells a claim of a process with its pages (1 to all pages) and its term (1 to 99)
    private static void toldClaimHas1ToAllPagesAndATermOf1To99() {
        ranged("pages 9;process a;ask a ", 1, 9, " 1;", 1);
        ranged("pages 9;process a;ask a 1 ", 1, 99, ";", 1);
        // All pages, not only those that are free.
        ranged("pages 9;process a;loan a 9 9;ask a ", 1, 9, " 1;", 1);
        MemoryCourt x = Check.court("pages 9;process a;loan a 9 9;ask a 9 99;ask a 1 1;");
        Check.all("9 99 1 1", x.claim(0, 1), x.claim(0, 2), x.claim(1, 1), x.claim(1, 2));
    }

    // There are at most 60 (claims).
    private static void atMost60Claims() {
        String head = "pages 9;process a;";
        Check.equal(counted(head, 13), 0);
        String most = head + times(60, "ask a1 1;");
        Check.all("60 60", counted(most, 13), counted(most, 14));
        Check.equal(Check.parsed(most + "ask a1 1;"), "-1 4 558");
        Check.equal(Check.parsed(most + "ask"), "-1 4 558");
        Check.equal(Check.parsed(most + "loan a1 1;"), "1 0 -1");
        MemoryCourt x = Check.court(most);
        Check.equal(Check.claimOf(x, 59), "0 1 1 0 0 -1 0");
        Check.noIndex(() -> x.claim(60, 0));
        Check.noState(() -> x.ask(0, 1, 1));
        MemoryCourt y = Check.court(head + times(59, "ask a1 1;"));
        Check.equal(y.ask(0, 1, 1), 59);
        Check.noState(() -> y.ask(0, 1, 1));
    }

    // A name is a word of 1 to 6 letters
    private static void nameHas1To6Letters() {
        Check.equal(Check.parsed("pages 9;process ;"), "-1 1 16");
        Check.equal(Check.parsed("pages 9;process a;loan a 1 1;ask a 1 1;"), "1 0 -1");
        Check.equal(Check.parsed("pages 9;process zzzzzz;loan zzzzzz 1 1;ask zzzzzz 1 1;"), "1 0 -1");
        Check.equal(Check.parsed("pages 9;process zzzzzzz;"), "-1 1 16");
        // Behind loan and ask, too; a name of six letters is not the first six of more.
        Check.equal(Check.parsed("pages 9;process zzzzzz;loan zzzzzzz 1 1;"), "-1 1 28");
        Check.equal(Check.parsed("pages 9;process zzzzzz;ask zzzzzzz 1 1;"), "-1 1 27");
        Check.equal(Check.parsed("pages 9;process zzzzzz;ask zzzzz 1 1;"), "-1 3 27");
        Check.equal(Check.parsed("pages 9;process " + times(584, "z")), "-1 1 16");
    }

    // ... that is not quoted in the grammar
    private static void nameIsNotQuoted() {
        for (String word : new String[] {"pages", "process", "every", "base", "fade", "patience", "appeal", "order", "first",
            "small", "clean", "loan", "ask"}) {
            Check.equal(Check.parsed("pages 9;process " + word + ";"), "-1 1 16");
            // A letter less or more makes it a name, if that is not too long.
            String less = word.substring(1), more = word + "s";
            Check.equal(Check.parsed("pages 9;process " + less + ";"), less.length() <= 6 ? "1 0 -1" : "-1 1 16");
            Check.equal(Check.parsed("pages 9;process " + more + ";"), more.length() <= 6 ? "1 0 -1" : "-1 1 16");
        }
        // What the grammar names without quotes is a name like others.
        Check.equal(Check.parsed("pages 9;process name;process number;process text;loan number 1 1;"), "3 0 -1");
    }

    // Processes have different names.
    private static void namesAreDifferent() {
        Check.equal(Check.parsed("pages 9;process ab;process ba;process a;process b;process abc;"), "5 0 -1");
        Check.equal(Check.parsed("pages 9;process ab;process ab;"), "-1 3 27");
        Check.equal(Check.parsed("pages 9;process ab;process a;process b;process b;"), "-1 3 47");
        Check.equal(Check.parsed("pages 9;process abcdef;process abcdeg;process abcdef;"), "-1 3 46");
    }

    // Behind "loan" and "ask" it is the name of a process that was told before.
    private static void nameBehindLoanAndAskWasToldBefore() {
        for (String kind : new String[] {"loan ", "ask "}) {
            int n = kind.length();
            Check.equal(Check.parsed("pages 9;" + kind + "a 1 1;process a;"), "-1 3 " + (8 + n));
            Check.equal(Check.parsed("pages 9;process a;" + kind + "b 1 1;process b;"), "-1 3 " + (18 + n));
            Check.equal(Check.parsed("pages 9;process a;process b;" + kind + "b 1 1;"), "2 0 -1");
        }
        MemoryCourt x = Check.court("pages 9;process a;process b;loan b 1 1;ask b 1 1;loan a 1 1;ask a 1 1;");
        Check.all("1 0 1 0", x.loan(0, 0), x.loan(1, 0), x.claim(0, 0), x.claim(1, 0));
    }

    // A word is a maximal run of the letters a to z
    private static void wordIsAMaximalRun() {
        Check.equal(Check.parsed("pages 9;process a;process z;"), "2 0 -1");
        Check.equal(Check.parsed("pages 9;process `;"), "-1 1 16");
        Check.equal(Check.parsed("pages 9;process {;"), "-1 1 16");
        Check.equal(Check.parsed("pages 9;process a`;"), "-1 1 17");
        Check.equal(Check.parsed("pages 9;process z{;"), "-1 1 17");
        Check.equal(Check.parsed("pages 9;process A;"), "-1 1 16");
        Check.equal(Check.parsed("pages 9;process aZ;"), "-1 1 17");
        Check.equal(Check.parsed("pages 9;processp;"), "-1 1 8");
        Check.equal(Check.parsed("pages 9;process a b;"), "-1 1 18");
        Check.equal(Check.parsed("pages 9;pro cess a;"), "-1 1 8");
        // The run ends where a digit begins.
        Check.equal(Check.parsed("pages9;every1;base9;"), "0 0 -1");
        Check.equal(Check.parsed("pages 9;process p1;"), "-1 1 17");
    }

    // A number is a maximal run of digits, 1 to 3 of them.
    private static void numberHas1To3Digits() {
        Check.equal(Check.parsed("pages ;"), "-1 1 6");
        Check.equal(Check.parsed("pages 9;"), "0 0 -1");
        Check.equal(Check.parsed("pages 009;"), "0 0 -1");
        Check.equal(Check.parsed("pages 0009;"), "-1 1 6");
        Check.equal(Check.parsed("pages 064;base 010;appeal 000;fade 099;"), "0 0 -1");
        Check.all("64 10 0 99", counted("pages 064;", 0), counted("pages 9;base 010;", 5), counted("pages 9;appeal 000;", 8),
            counted("pages 9;fade 099;", 6));
        Check.equal(Check.parsed("pages 000;"), "-1 2 6");
        Check.equal(Check.parsed("pages 9;process a;loan a 0001 1;"), "-1 1 25");
        Check.equal(Check.parsed("pages 9;process a;loan a 1 0001;"), "-1 1 27");
        Check.equal(Check.parsed("pages 9;process a;ask a 1 " + times(574, "1")), "-1 1 26");
        Check.equal(Check.parsed("pages 9 9;"), "-1 1 8");
        Check.equal(Check.parsed("pages 9/;"), "-1 1 7");
        Check.equal(Check.parsed("pages 9:;"), "-1 1 7");
        Check.equal(Check.parsed("pages /9;"), "-1 1 6");
        Check.equal(Check.parsed("pages -9;"), "-1 1 6");
        Check.equal(Check.parsed("pages +9;"), "-1 1 6");
        Check.equal(Check.parsed("pages 9a;"), "-1 1 7");
    }

    // Spaces (byte 32) and line feeds (byte 10) may stand between tokens.
    private static void blanksStandBetweenTokens() {
        Check.equal(Check.parsed("pages9;processa;"), "-1 1 7");
        Check.equal(Check.parsed("pages9;process a;loan a1 1;ask a1\n1;"), "1 0 -1");
        Check.equal(Check.parsed("\n \npages\n \n9\n \n;\n \nprocess\n \na\n \n;\n \nloan\na\n1\n1\n;\n \n"), "1 0 -1");
        for (int sign : new int[] {0, 1, 9, 11, 13, 31, 33, 58, 60, 96, 123, 127, 128, 160, 255}) {
            Check.equal(Check.parsed("pages" + (char) sign + "9;"), "-1 1 5");
            Check.equal(Check.parsed("pages 9;" + (char) sign), "-1 1 8");
        }
    }

    // An offset ... is the index of the first byte of the token at fault, or the length of the text if more is required.
    private static void offsetIsTheTokensOrTheTextsLength() {
        String text = "pages 9;process ab;loan ab 1 2;order clean;every 3;";
        // Where a statement has ended the text may end; elsewhere more is required.
        for (int length = 0; length <= text.length(); length++) {
            String begun = text.substring(0, length);
            boolean whole = begun.endsWith(";");
            boolean cutWord = length > 0 && !whole && length < text.length() && Character.isLetter(begun.charAt(length - 1))
                && Character.isLetter(text.charAt(length));
            if (whole) {
                Check.equal(Check.parsed(begun).substring(2).trim(), "0 -1");
            } else if (!cutWord) {
                Check.equal(Check.parsed(begun), "-1 1 " + length);
                Check.equal(Check.parsed(begun + " \n"), "-1 1 " + (length + 2));
            }
        }
        Check.equal(Check.parsed(""), "-1 1 0");
        Check.equal(Check.parsed(times(600, " ")), "-1 1 600");
        Check.equal(Check.parsed("?"), "-1 1 0");
        Check.equal(Check.parsed("\n ?"), "-1 1 2");
        Check.equal(Check.parsed("pages 9;\n process\n  abcdefg ;"), "-1 1 20");
        Check.equal(Check.parsed("pages 9;every   51 ;"), "-1 2 16");
        Check.equal(Check.parsed("pages 9;process a;  ask   b 1 1;"), "-1 3 26");
    }

    // The first error from the left is reported
    private static void firstErrorFromTheLeft() {
        Check.equal(Check.parsed("pages 3;process a;process a;?"), "-1 2 6");
        Check.equal(Check.parsed("pages 9;process a;process a;every 0;?"), "-1 3 26");
        Check.equal(Check.parsed("pages 9;ask a 0 0;"), "-1 3 12");
        Check.equal(Check.parsed("pages 9;process a;ask a 0 100;"), "-1 2 24");
        Check.equal(Check.parsed("pages 9;process a;ask a 1 100;"), "-1 2 26");
        Check.equal(Check.parsed("pages 9;every 0;every 1;"), "-1 2 14");
        Check.equal(Check.parsed("pages 9;every 1;every 0;"), "-1 3 16");
        Check.equal(Check.parsed("pages 9;every 51 51"), "-1 2 14");
        Check.equal(Check.parsed("pages 9;every 50 51"), "-1 1 17");
    }

    // If several codes apply to a token, the smallest one.
    private static void smallestCodeOfAToken() {
        // Too long and out of range; too long, quoted or no word at all, and the name of none.
        Check.equal(Check.parsed("pages 1000;"), "-1 1 6");
        Check.equal(Check.parsed("pages 9;every 0000;"), "-1 1 14");
        Check.equal(Check.parsed("pages 9;loan abcdefg 1 1;"), "-1 1 13");
        Check.equal(Check.parsed("pages 9;ask loan 1 1;"), "-1 1 12");
        Check.equal(Check.parsed("pages 9;loan 7 1 1;"), "-1 1 13");
        // A second "pages" cannot stand there at all.
        Check.equal(Check.parsed("pages 9;pages 9;"), "-1 1 8");
    }

    // 4: the first word of a 9th process, a 21st loan or a 61st claim.
    private static void code4StandsAtTheFirstWord() {
        String processes = "pages 9;";
        for (char c = 'a'; c <= 'h'; c++) {
            processes += "process " + c + ";";
        }
        Check.equal(Check.parsed(processes + " \nprocess a"), "-1 4 90");
        Check.equal(Check.parsed(processes + "process?"), "-1 4 88");
        Check.equal(Check.parsed(processes + "loan h 1 1;ask h 1 1;"), "8 0 -1");
        String loans = "pages 64;process a;" + times(20, "loan a1 1;");
        Check.equal(Check.parsed(loans + "\nloan b 99 0"), "-1 4 220");
        String claims = "pages 9;process a;" + times(60, "ask a1 1;");
        Check.equal(Check.parsed(claims + " ask b 99 0"), "-1 4 559");
    }

    // ---- promises 1 to 3

    // Creates a court as if the text "pages 4;" had been parsed, with an empty input buffer.
    private static void newObject() {
        MemoryCourt x = new MemoryCourt();
        Check.equal(Check.counts(x), Check.counts(Check.court("pages 4;")));
        Check.all("-1 -1", x.page(0), x.page(3));
        Check.noIndex(() -> x.page(4));
        Check.noIndex(() -> x.page(-1));
        Check.noIndex(() -> x.process(0, 0));
        Check.noIndex(() -> x.loan(0, 0));
        Check.noIndex(() -> x.claim(0, 0));
        Check.noElement(() -> x.fine(0, 0));
        Check.noElement(() -> x.waiting(0));
        Check.noState(x::undo);
        Check.noState(x::restoreState);
        Check.all("4 5 0 0 -1 -1 0.0 0.0", x.longestFree(), x.nextHearing(), x.shortage(), x.overdue(), x.firstBroken(), x.worst(),
            x.meanLate(), x.metShare());
        Check.all("-1 true false 20", x.outputByte(0), x.truncate(0), x.truncate(1), x.feed(0, 0, 0, 0, 0));
    }

    // Appends twenty bytes to the input buffer: the four bytes of each parameter, the most significant byte first.
    private static void feedAppendsTwentyBytes() {
        // Each byte of each parameter in its place: only the twenty in their order are this text.
        String text = "pages 9;process abc;";
        for (int cut = 0; cut < 20; cut++) {
            MemoryCourt x = new MemoryCourt();
            int[] w = new int[5];
            for (int i = 0; i < 20; i++) {
                w[i / 4] |= (i == cut ? 0xff : text.charAt(i)) << 24 - i % 4 * 8;
            }
            Check.equal(x.feed(w[0], w[1], w[2], w[3], w[4]), 20);
            x.parse();
            // A byte that belongs to no token stands within a word or number as well as ahead of one.
            Check.equal(x.errorCode(), 1);
            Check.equal(x.errorOffset(), new int[] {0, 0, 0, 0, 0, 5, 6, 7, 8, 8, 8, 8, 8, 8, 8, 15, 16, 17, 18, 19}[cut]);
        }
        MemoryCourt y = new MemoryCourt();
        Check.all("20 1", y.feed(0x70616765, 0x7320393b, 0x70726f63, 0x65737320, 0x6162633b), y.parse());
    }

    // Returns the new length of the buffer; NONE, with no change, if it would exceed 600.
    private static void feedBeyond600ChangesNothing() {
        MemoryCourt x = new MemoryCourt();
        for (int i = 0; i < 29; i++) {
            x.feed(0, 0, 0, 0, 0);
        }
        Check.equal(x.feed(0, 0, 0, 0, 0), 600);
        for (int length = 581; length <= 600; length++) {
            MemoryCourt y = new MemoryCourt();
            Check.input(y, "pages 4;" + times(length - 9, " ") + "!");
            Check.equal(y.feed(0x61616161, 0, 0, 0, 0), -1);
            Check.all("false true -1", y.truncate(length + 1), y.truncate(length), y.feed(0, 0, 0, 0, 0));
            Check.all("-1 1 " + (length - 1), y.parse(), y.errorCode(), y.errorOffset());
        }
        Check.all("true 600 -1", x.truncate(580), x.feed(0, 0, 0, 0, 0), x.feed(0, 0, 0, 0, 0));
    }

    // Returns true; false, with no change, if length is negative or greater than the length of the buffer.
    private static void truncateTo0UpToTheLength() {
        MemoryCourt x = new MemoryCourt();
        Check.all("false true false", x.truncate(-1), x.truncate(0), x.truncate(1));
        Check.input(x, "pages 4;process ab;");
        Check.all("false false false", x.truncate(20), x.truncate(-1), x.truncate(Integer.MIN_VALUE));
        Check.all("false true", x.truncate(Integer.MAX_VALUE), x.truncate(19));
        Check.all("1 0 -1", x.parse(), x.errorCode(), x.errorOffset());
        // Shortened by one byte, and to nothing.
        Check.input(x, "pages 4;process ab;");
        Check.all("true false -1 1 18", x.truncate(18), x.truncate(19), x.parse(), x.errorCode(), x.errorOffset());
        Check.input(x, "pages 4;process ab;");
        Check.all("true -1 1 0", x.truncate(0), x.parse(), x.errorCode(), x.errorOffset());
        // What was cut off does not come back.
        Check.input(x, "abc");
        x.truncate(1);
        Check.equal(x.feed(0, 0, 0, 0, 0), 21);
        Check.all("true -1", x.truncate(3), x.find());
    }

    // ---- promises 4 to 6

    // Parses the input buffer and empties it, whether it succeeds or not.
    private static void parseEmptiesTheBuffer() {
        MemoryCourt x = new MemoryCourt();
        Check.all("-1 false true", x.parse(), x.truncate(1), x.truncate(0));
        Check.input(x, "pages 4;");
        Check.all("0 false true", x.parse(), x.truncate(1), x.truncate(0));
        Check.input(x, "pages 4;?");
        Check.all("-1 false true 20", x.parse(), x.truncate(1), x.truncate(0), x.feed(0, 0, 0, 0, 0));
    }

    // On success ...: the time is 0, there was no hearing, nothing can be undone, and no state is saved.
    private static void parseBeginsAnew() {
        MemoryCourt x = Check.court("pages 9;process p;every 3;loan p 2 1;ask p 9 9;order clean;");
        x.stall(0, 9);
        x.run(3);
        x.saveState();
        x.printProcess(0);
        Check.all("3 1 1 2 1", x.count(2), x.count(17), x.count(18), x.count(20), x.undo());
        Check.input(x, "pages 9;process q;every 3;loan q 2 1;");
        Check.equal(x.parse(), 1);
        Check.equal(Check.counts(x), "9 1 0 0 3 10 20 3 10 7 1 1 0 0 0 0 0 0 0 0 0");
        Check.equal(Check.processOf(x, 0), "0 0 0 2 1 0 0 0 0 0");
        Check.noState(x::undo);
        Check.noState(x::restoreState);
        Check.noElement(() -> x.fine(0, 0));
        Check.noIndex(() -> x.claim(0, 0));
        Check.all("false false", x.wasStalled(0, 1), x.wasStalled(0, 0));
        Check.equal(Check.output(x), "p 4 1 2@1!");
        // The span of the first fine does not begin at the hearing of the court before.
        x.run(3);
        Check.equal(Check.fineOf(x, 0), "0 0 4 1 3 1 0 1");
    }

    // On success everything but the output is as at first, however long the court was used before.
    private static void parseBeginsAnewBehindLongUse() {
        String used = "pages 64;process p;process q;every 1;base 100;patience 1;order clean;loan p 9 1;loan p 9 1;ask q 40 90;ask q 64 1;ask q 1 1;ask p 2 1;";
        String text = "pages 9;process r;process s;every 5;loan r 1 4;loan s 2 6;ask s 8 9;ask s 1 9;";
        MemoryCourt x = Check.court(used), fresh = Check.court(text);
        x.stall(0, 99);
        x.run(50);
        x.undo();
        x.run(1);
        x.freeIn(500);
        x.wouldPay(0);
        Check.input(x, text);
        Check.equal(x.parse(), 2);
        for (int ticks = 0; ticks <= 10; ticks += 5) {
            Check.equal(Check.counts(x), Check.counts(fresh));
            for (int i = 0; i < 2; i++) {
                Check.equal(Check.processOf(x, i), Check.processOf(fresh, i));
                Check.equal(Check.loanOf(x, i), Check.loanOf(fresh, i));
                Check.equal(Check.claimOf(x, i), Check.claimOf(fresh, i));
            }
            Check.all("false false false", x.wasStalled(0, 1), x.wasStalled(0, ticks), x.wasStalled(0, 50));
            Check.all(fresh.overdue() + " " + fresh.firstBroken() + " " + fresh.meanLate() + " " + fresh.worst(), x.overdue(),
                x.firstBroken(), x.meanLate(), x.worst());
            Check.all(x.printProcess(0) + Check.output(x), fresh.printProcess(0) + Check.output(fresh));
            Check.all(fresh.wouldPay(0) + " " + fresh.wouldPay(1), x.wouldPay(0), x.wouldPay(1));
            Check.all(fresh.wouldFine(0) + " " + fresh.wouldFine(1), x.wouldFine(0), x.wouldFine(1));
            Check.all(x.run(5) + " " + x.count(20), fresh.run(5), fresh.count(20));
        }
        Check.equal(Check.fineOf(x, 0), "0 0 1 4 5 1 0 1");
        Check.equal(x.evidence(0), 0);
    }

    // ... there was no hearing: what a forecast saw of the court before is not there either.
    private static void parseBeginsAnewBehindForecasts() {
        // At 2 loan 0 is taken back for u; up to 39 the loans 1 to 4 are fined, and the claims of p and q are put off.
        String used = "pages 9;process p;process q;process u;every 2;patience 20;order small;"
            + "loan p 2 1;loan p 1 2;loan p 1 3;loan q 2 4;loan q 1 3;ask p 1 1;ask u 4 99;ask q 9 9;";
        String text = "pages 9;process r;process s;every 5;loan r 1 4;loan s 2 9;loan r 1 3;ask s 2 9;ask s 9 1;";
        for (int forecast = 0; forecast < 7; forecast++) {
            MemoryCourt x = Check.court(used), fresh = Check.court(text);
            switch (forecast) {
                case 0: x.freeIn(39); break;
                case 1: x.processIn(0, 39, 0); break;
                case 2: x.metIn(0, 39); break;
                case 3: x.refusedIn(2, 39); break;
                case 4: x.bestOrder(39); break;
                case 5: x.run(8); x.wouldPay(0); break;
                default: x.run(8); x.helps(0, 2); break;
            }
            Check.input(x, text);
            Check.equal(x.parse(), 2);
            Check.equal(Check.counts(x), "9 2 0 0 5 10 20 3 10 5 3 3 0 2 2 0 0 0 0 0 0");
            for (int i = 0; i < 3; i++) {
                Check.equal(Check.loanOf(x, i), Check.loanOf(fresh, i));
            }
            Check.equal(Check.claimOf(x, 0) + "|" + Check.processOf(x, 1), "1 2 9 0 0 -1 0|0 0 0 2 1 0 2 0 0 0");
            // At 5 the weights are 1 and 2; the claim of s becomes loan 3, which is not fined.
            Check.all("2 0 1 0 1", x.wouldPay(0), x.wouldPay(1), x.wouldFine(0), x.wouldFine(1), x.wouldFine(2));
            Check.all("6 0 -1 0.0 9 s 0 0 2@9", x.shortage(), x.overdue(), x.firstBroken(), x.meanLate(), x.printProcess(1), Check.output(x));
            Check.equal(x.run(5), 1);
            Check.all("6 2 2 1.5 4 2", x.shortage(), x.overdue(), x.firstBroken(), x.meanLate(), x.count(11), x.count(12));
            Check.equal(Check.fineOf(x, 0) + "|" + Check.fineOf(x, 1), "0 0 1 4 5 1 0 1|0 2 2 3 5 1 0 1");
            Check.all("1 2 14 5 0 0 0 2 0 1", Check.loanOf(x, 3), x.count(19), x.claim(1, 4));
        }
    }

    // NONE if the text has an error, in which case everything but the buffer and the error is kept.
    private static void parseWithAnErrorKeepsAll() {
        for (String text : new String[] {"", "pages 3;", "pages 64;process z;every 1;ask z 1 1;loan z 9 9;process z;", "pages 9;every"}) {
            MemoryCourt x = Check.court("pages 9;process p;every 3;loan p 2 1;ask p 9 9;order clean;");
            x.stall(0, 2);
            x.run(3);
            x.saveState();
            x.run(1);
            x.printProcess(0);
            Check.input(x, text);
            Check.equal(x.parse(), -1);
            Check.equal(Check.counts(x), "9 1 4 2 3 10 20 3 10 7 1 1 1 1 1 0 0 1 1 0 3");
            Check.equal(Check.processOf(x, 0) + "|" + Check.loanOf(x, 0) + "|" + Check.claimOf(x, 0) + "|" + Check.fineOf(x, 0),
                "4 0 0 2 1 1 1 0 1 2|0 2 1 0 -1 1 0 2|0 9 9 0 1 -1 0|0 0 4 1 3 1 0 1");
            Check.equal(Check.output(x), "p 4 0 2@1!");
            Check.all("true true false 1", x.wasStalled(0, 1), x.wasStalled(0, 2), x.wasStalled(0, 3), x.evidence(0));
            Check.input(x, "p");
            Check.equal(x.find(), 0);
            Check.all("2 3 3 3", x.undo(), x.count(2), x.restoreState(), x.count(2));
        }
    }

    // Returns 1 to 4; 0 if that text had no error or there was no such call.  Returns the offset; NONE ...
    private static void errorIsThatOfTheLatestParse() {
        MemoryCourt x = new MemoryCourt();
        Check.all("0 -1", x.errorCode(), x.errorOffset());
        String[] texts = {"", "pages 3;", "pages 9;ask a 1 1;", times(600, " ")};
        String[] due = {"1 0", "2 6", "3 12", "1 600"};
        for (int i = 0; i < texts.length; i++) {
            Check.input(x, texts[i]);
            x.parse();
            Check.equal(x.errorCode() + " " + x.errorOffset(), due[i]);
            Check.equal(x.errorCode() + " " + x.errorOffset(), due[i]);
        }
        String nine = "pages 9;process a;process b;process c;process d;process e;process f;process g;process h;process i;";
        Check.input(x, nine);
        Check.all("-1 4 88", x.parse(), x.errorCode(), x.errorOffset());
        // No other call than parse changes it: neither find, nor a change, nor what it takes back.
        Check.input(x, "pages 5;");
        x.find();
        x.run(1);
        x.undo();
        x.saveState();
        x.restoreState();
        Check.all("4 88", x.errorCode(), x.errorOffset());
        Check.input(x, "pages 5;");
        Check.all("4 88 0 0 -1", x.errorCode(), x.errorOffset(), x.parse(), x.errorCode(), x.errorOffset());
    }

    // ---- promise 8

    // Finds a process by the name that is the whole content of the input buffer (blanks count), which is empty afterwards.
    private static void findTakesTheWholeBuffer() {
        MemoryCourt x = Check.court("pages 9;process a;process abcdef;process b;process c;process d;process e;process f;process g;");
        String[] names = {"a", "g", "abcdef", "abcde", "abcdefg", "", " ", "a ", " a", "a\n", "\na", "a\0", "aa", "A", "h", "a;"};
        int[] due = {0, 7, 1, -1, -1, -1, -1, -1, -1, -1, -1, -1, -1, -1, -1, -1};
        for (int i = 0; i < names.length; i++) {
            Check.input(x, names[i]);
            Check.all(due[i] + " false -1", x.find(), x.truncate(1), x.find());
        }
        Check.input(x, times(600, "a"));
        Check.all("-1 20", x.find(), x.feed(0, 0, 0, 0, 0));
    }

    // NONE if there is none with this name.
    private static void findWithoutProcesses() {
        MemoryCourt x = new MemoryCourt();
        Check.equal(x.find(), -1);
        Check.input(x, "p");
        Check.all("-1 false", x.find(), x.truncate(1));
        // A process of a text with an error was never there, one of the court before is not there any more.
        Check.input(x, "pages 9;process p;process p;");
        x.parse();
        Check.input(x, "p");
        Check.equal(x.find(), -1);
        Check.input(x, "pages 9;process p;process q;");
        x.parse();
        Check.input(x, "pages 9;process r;");
        x.parse();
        for (String name : new String[] {"p", "q", "r"}) {
            Check.input(x, name);
            Check.equal(x.find(), name.equals("r") ? 0 : -1);
        }
    }
}
