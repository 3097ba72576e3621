/** Promises 30 to 32 and the TEXTS of the Terms, sentence by sentence, at their edges. */
public final class EdgesTextTest {
    private static final String[] KINDS = TextGrammarTest.KINDS;

    public static void main(String[] args) {
        feedHowMany();
        feedBytes();
        feedFull();
        wipeAny();
        letters();
        digits();
        signAndBlanks();
        asLongAsCanBe();
        numbersOfItems();
        numbersAbove999();
        disputantItems();
        anotherWord();
        noToken();
        ninth();
        endsTooEarly();
        howManyItems();
        wholeTape();
        faultChangesNothing();
        noFinding();
        Due.end("EdgesTextTest");
    }

    /** A text on a tape that was empty, read by a new object that a making has prepared. */
    private static void reads(String text, Edge.Making making, int want) {
        Edge.answers("32: text \"" + text + "\"", x -> {
            making.make(x);
            x.wipe();
            Due.feed(x, text);
        }, ToastCourt::text, want);
    }

    /** With its FAULT, and as if the tape had only been wiped. */
    private static void faults(String text, Edge.Making making, int fault) {
        reads(text, making, -1 - fault);
        Edge.same("32: nothing changes with \"" + text + "\"", x -> {
            making.make(x);
            x.wipe();
        }, x -> {
            making.make(x);
            x.wipe();
            Due.feed(x, text);
            x.text();
        });
    }

    /** 30: "(n 1 to 4) .. BEYOND: n.", asked ahead of FULL. */
    private static void feedHowMany() {
        Edge.range("30: feed(0, n)", Made::nothing, (x, n) -> x.feed(0, n), Edge.ends(1, 4), Edge.wants(1, 4));
        Edge.range("30: feed(0, n), full", Made::full, (x, n) -> x.feed(0, n), Edge.ends(1, 4), Edge.wants(32, 35));
        for (int n : new int[] {Edge.LEAST, -1, 0, 5, 121, Edge.MOST}) {
            Edge.refuses("30: feed(0, " + n + ") behind 120", x -> bytes(x, 120), x -> x.feed(0, n), Due.BEYOND);
        }
    }

    private static void bytes(ToastCourt x, int n) {
        for (int k = 0; k < n; k++) {
            x.feed(' ', 1);
        }
    }

    /** 30: "the n lowest bytes of a number behind it, the highest of these first". */
    private static void feedBytes() {
        // "nt" are the lowest two, whatever stands above them.
        for (int v : new int[] {0x6e74, 0x616e74, 0x7f616e74, 0xff616e74, 0xffff6e74}) {
            Edge.answers("30: feed(" + v + ", 2) behind au", x -> {
                x.feed(0x6175, 2);
                x.feed(v, 2);
            }, ToastCourt::text, 1);
        }
        Edge.answers("30: feed of aunt at once", x -> x.feed(0x61756e74, 4), ToastCourt::text, 1);
        Edge.answers("30: feed of a byte above 127", x -> x.feed(0x20a0, 2), ToastCourt::text, -2);
        Edge.answers("30: feed of four and four", x -> {
            x.feed(0x73707265, 4);
            x.feed(0x61642037, 4);
            x.text();
        }, x -> x.court(1), 7);
    }

    /** 30: "FULL."; THE TAPE is "bytes, at most 120". */
    private static void feedFull() {
        for (int has = 115; has <= 120; has++) {
            for (int n = 1; n <= 4; n++) {
                int before = has;
                int more = n;
                String call = "30: feed(0, " + n + ") behind " + has;
                if (has + n <= 120) {
                    Edge.answers(call, x -> bytes(x, before), x -> x.feed(0, more), has + n);
                } else {
                    Edge.refuses(call, x -> bytes(x, before), x -> x.feed(0, more), Due.FULL);
                }
            }
        }
        Edge.answers("30: count(5) of a full tape", x -> bytes(x, 120), x -> x.count(5), 120);
        Edge.answers("30: a tape that was full and is empty", x -> {
            bytes(x, 120);
            x.wipe();
        }, x -> x.feed(0, 4), 4);
    }

    /** 31: "THE TAPE is empty: how many it had." */
    private static void wipeAny() {
        for (int n : new int[] {0, 1, 119, 120}) {
            Edge.answers("31: wipe() of " + n, x -> bytes(x, n), ToastCourt::wipe, n);
            Edge.answers("31: wipe() of " + n + " twice", x -> bytes(x, n), x -> Edge.then(x.wipe(), x.wipe()), 0);
            Edge.answers("31: wipe() of " + n + ", then count(5)", x -> bytes(x, n),
                x -> Edge.then(x.wipe(), x.count(5)), 0);
        }
        Edge.answers("31: wipe(), full", Made::full, ToastCourt::wipe, 31);
        // Nothing is left of it: what is fed then is read alone.
        Edge.answers("31: a text behind one that was wiped", x -> {
            Due.feed(x, "spread 77777");
            x.wipe();
            Due.feed(x, "spread 7");
        }, ToastCourt::text, 1);
    }

    /** "WORDS (letters a to z)": a and z are letters; what stands just beside them is none. */
    private static void letters() {
        faults("az", Made::nothing, 0);
        for (int b : new int[] {'a' - 1, 'z' + 1, 'A', 'Z', 'a' + 128, 0xe4}) {
            faults((char) b + "unt", Made::nothing, 0);
            faults("aunt" + (char) b, Made::nothing, 4);
            faults("aunt " + (char) b, Made::nothing, 5);
        }
        // Letters make the WORD longer, and another one.
        faults("aunta", Made::nothing, 0);
        faults("auntz", Made::nothing, 0);
        faults("aun", Made::nothing, 0);
        faults("aunt cause 5 temperz 5", Made::nothing, 13);
        // With any letter another one it is another WORD, and so with one left out or one more.
        for (String word : KINDS) {
            otherWords("", word, "");
        }
        otherWords("", "dispute", " 0 1 2");
        otherWords("", "height", " 5");
        otherWords("", "spread", " 5");
        otherWords("aunt ", "cause", " 5");
        otherWords("aunt ", "temper", " 5");
        otherWords("aunt ", "silent", "");
    }

    private static void otherWords(String before, String word, String behind) {
        reads(before + word + behind, Made::nothing, 1);
        for (int k = 0; k < word.length(); k++) {
            String ahead = before + word.substring(0, k);
            String rest = word.substring(k + 1) + behind;
            char letter = word.charAt(k);
            faults(ahead + (char) (letter == 'z' ? 'y' : letter + 1) + rest, Made::nothing, before.length());
            faults(ahead + (char) (letter == 'a' ? 'b' : letter - 1) + rest, Made::nothing, before.length());
            faults(ahead + letter + letter + rest, Made::nothing, before.length());
            faults(ahead + (char) (letter - 32) + rest, Made::nothing, before.length());
            faults(ahead + rest, Made::nothing, before.length());
        }
    }

    /** "NUMBERS (digits ..)": 0 and 9 are digits; what stands just beside them is none. */
    private static void digits() {
        reads("spread 0", Made::nothing, 1);
        reads("spread 9", Made::nothing, 1);
        for (int b : new int[] {'0' - 1, '9' + 1, '0' + 128, '-', '+', '.'}) {
            faults("spread " + (char) b, Made::nothing, 7);
            faults("spread 5" + (char) b, Made::nothing, 8);
        }
    }

    /** "SIGN ; ; blanks may stand between." */
    private static void signAndBlanks() {
        for (int b : new int[] {';' - 1, ';' + 1, ',', ';' + 128}) {
            faults("aunt" + (char) b + "aunt", Made::nothing, 4);
        }
        reads("aunt;aunt", Made::nothing, 2);
        reads("  aunt  ;  aunt  ", Made::nothing, 2);
        reads("   dispute   0   1   2   ;   spread   5   ", Made::nothing, 2);
        for (int b : new int[] {0, 9, 10, 13, 31, 33, 127, 128, 160, 255}) {
            faults((char) b + "aunt", Made::nothing, 0);
            faults("aunt" + (char) b, Made::nothing, 4);
            faults("aunt" + (char) b + ";aunt", Made::nothing, 4);
        }
    }

    /** "TOKENS, each as long as can be". */
    private static void asLongAsCanBe() {
        faults("auntcause 5", Made::nothing, 0);
        faults("aunt causes 5", Made::nothing, 5);
        faults("spread 55", Made::nothing, 7);
        faults("dispute 012", Made::nothing, 8);
        faults("dispute 01 2", Made::nothing, 12);
        reads("aunt cause5temper6silent;twin;height7;spread8;dispute5 6 7", Made::nothing, 5);
        reads("dispute 0 1 2;spread 05", Made::nothing, 2);
    }

    /** Each ITEM's NUMBERS: just below, at and just above; what they tell is so then. */
    private static void numbersOfItems() {
        number("height ", "", 1, 60, x -> x.court(0));
        number("spread ", "", 0, 9, x -> x.court(1));
        number("aunt cause ", "", 0, 99, x -> x.of(0, 1));
        number("aunt cause ", " temper 3 silent", 0, 99, x -> x.of(0, 1));
        number("aunt temper ", "", 0, 99, x -> x.of(0, 2));
        number("aunt cause 7 temper ", " silent", 0, 99, x -> x.of(0, 2));
        number("dispute 3 ", " 4", 0, 7, x -> x.listed(3) / 10);
        number("dispute 3 4 ", "", 0, 7, x -> x.listed(3) % 10);
        for (int place = 0; place < 6; place++) {
            int at = place;
            number("dispute ", " 6 7", place, 5, x -> x.listed(at) == 67 ? at : -1);
        }
        for (String kind : KINDS) {
            number(kind + " cause ", ";aunt", 0, 99, x -> x.of(0, 1));
            number(kind + " temper ", ";aunt", 0, 99, x -> x.of(0, 2));
        }
        faults("height 0", Made::nothing, 7);
        faults("height 000", Made::nothing, 7);
    }

    private static void number(String before, String behind, int least, int most, Edge.Call told) {
        int items = behind.startsWith(";") ? 2 : 1;
        for (int v : new int[] {least, most}) {
            String text = before + v + behind;
            reads(text, Made::nothing, items);
            if (v == least || !before.equals("dispute ")) {
                Edge.answers("32: then, behind \"" + text + "\"", x -> Due.text(x, text), told, v);
            }
        }
        for (int v : new int[] {most + 1, 100, 999, 1000, 1001}) {
            if (v > most) {
                faults(before + v + behind, Made::nothing, before.length());
                faults("twin;" + before + v + behind, Made::nothing, 5 + before.length());
            }
        }
        faults(before + "x" + behind, Made::nothing, before.length());
        faults(before + ";" + behind, Made::nothing, before.length());
        faults(before + "-1" + behind, Made::nothing, before.length());
    }

    /** "NUMBERS (digits, 999 at most)": rows of digits that would wrap around tell no small number. */
    private static void numbersAbove999() {
        for (String digits : new String[] {"999", "1000", "9999", "65537", "4294967297", "2147483648", "4294967296",
            "18446744073709551617", "340282366920938463463374607431768211457", "9999999999999999999999999999"}) {
            faults("height " + digits, Made::nothing, 7);
            faults("aunt cause " + digits, Made::nothing, 11);
            faults("dispute 1 2 " + digits, Made::nothing, 12);
        }
        // By their value: zeros ahead are fine, however many.
        reads("height 001", Made::nothing, 1);
        reads("height 00000000000000000000000000000060", Made::nothing, 1);
        faults("height 00000000000000000000000000000061", Made::nothing, 7);
    }

    /** "perhaps cause .., perhaps temper .., perhaps silent": each there or not, in this order. */
    private static void disputantItems() {
        for (int kind = 0; kind < 7; kind++) {
            for (int parts = 0; parts < 8; parts++) {
                String text = KINDS[kind] + ((parts & 1) > 0 ? " cause 7" : "") + ((parts & 2) > 0 ? " temper 8" : "")
                    + ((parts & 4) > 0 ? " silent" : "");
                reads(text, Made::lawyers, 1);
                int[] want = {kind, (parts & 1) > 0 ? 7 : 50, (parts & 2) > 0 ? 8 : 20, 0, 0, parts >> 2};
                for (int what = 0; what < 6; what++) {
                    int w = what;
                    Edge.answers("32: of(2, " + w + ") behind \"" + text + "\"", x -> {
                        Made.lawyers(x);
                        Due.text(x, text);
                    }, x -> x.of(2, w), want[w]);
                }
            }
        }
        faults("aunt temper 8 cause 7", Made::nothing, 14);
        faults("aunt silent cause 7", Made::nothing, 12);
        faults("aunt silent temper 8", Made::nothing, 12);
        faults("aunt cause 7 cause 7", Made::nothing, 13);
        faults("aunt temper 8 temper 8", Made::nothing, 14);
        faults("aunt silent silent", Made::nothing, 12);
    }

    /** "another WORD", a NUMBER or a SIGN where none can stand: at each place of each ITEM. */
    private static void anotherWord() {
        String[] words = {"disputant", "aunt", "lawyer", "parson", "bishop", "child", "twin", "cause", "temper",
            "silent",
            "dispute", "height", "spread", "x", "toast"};
        String[] before = {"", "aunt;", "height ", "height 5 ", "spread ", "spread 5 ", "dispute ", "dispute 0 ",
            "dispute 0 1 ", "dispute 0 1 2 ", "aunt ", "aunt cause ", "aunt cause 5 ", "aunt temper ", "aunt temper 5 ",
            "aunt silent ", "aunt cause 5 temper ", "aunt cause 5 temper 5 ", "aunt cause 5 temper 5 silent "};
        // Which of the words (as a set of their places) may stand there.
        int begin = 0b1110001111111;
        int[] may = {begin, begin, 0, 0, 0, 0, 0, 0, 0, 0, 1 << 7 | 1 << 8 | 1 << 9, 0, 1 << 8 | 1 << 9, 0, 1 << 9, 0,
            0,
            1 << 9, 0};
        for (int b = 0; b < before.length; b++) {
            for (int w = 0; w < words.length; w++) {
                String text = before[b] + words[w];
                if ((may[b] >> w & 1) == 0) {
                    faults(text, Made::nothing, before[b].length());
                    faults(text + " 5", Made::nothing, before[b].length());
                } else if (w < 7 || w == 9) {
                    reads(text, Made::nothing, b == 1 ? 2 : 1);
                } else {
                    faults(text, Made::nothing, text.length());
                }
            }
        }
        for (String text : new String[] {"", "aunt ", "aunt;", "aunt cause 5 ", "aunt silent ", "height 5 ",
            "dispute 0 1 2 "}) {
            faults(text + "5", Made::nothing, text.length());
        }
        for (String text : new String[] {"", "aunt;", "height ", "spread ", "dispute ", "dispute 0 ", "dispute 0 1 ",
            "aunt cause ", "aunt temper "}) {
            faults(text + ";", Made::nothing, text.length());
            faults(text + ";aunt", Made::nothing, text.length());
        }
    }

    /** "a byte that begins no TOKEN": each such byte at the begin, and one at each place. */
    private static void noToken() {
        for (int b = 0; b < 256; b++) {
            boolean begins = b == ' ' || b == ';' || b >= '0' && b <= '9' || b >= 'a' && b <= 'z';
            if (!begins) {
                faults("" + (char) b, Made::nothing, 0);
                faults("spread 5" + (char) b, Made::nothing, 8);
            }
        }
        for (String text : new String[] {"", "aunt", "aunt ", "aunt;", "aunt cause", "aunt cause ", "aunt cause 5",
            "height ", "height 5 ", "dispute 0 1 ", "dispute 0 1 2"}) {
            faults(text + "#", Made::nothing, text.length());
            faults(text + "#;aunt", Made::nothing, text.length());
        }
    }

    /** "the WORD of a 9th one: its own": with those who are there already and those of the text. */
    private static void ninth() {
        for (int has = 0; has <= 8; has++) {
            int before = has;
            Edge.Making making = x -> {
                for (int d = 0; d < before; d++) {
                    x.disputant(0, 1);
                }
            };
            StringBuilder text = new StringBuilder();
            for (int more = 1; has + more <= 8; more++) {
                text.append(text.length() == 0 ? "" : ";").append(KINDS[more % 7]);
                reads(text.toString(), making, more);
            }
            String ahead = text.length() == 0 ? "" : text + "; ";
            for (String kind : KINDS) {
                faults(ahead + kind, making, ahead.length());
                // Its own, also where something behind it couldn't stand.
                faults(ahead + kind + " cause 100", making, ahead.length());
                faults(ahead + kind + " #", making, ahead.length());
            }
            // Something ahead of it that can't stand is the FAULT.
            faults("spread 10;" + ahead + "aunt", making, 7);
            reads("spread 9;height 9;dispute 0 0 0", making, 3);
        }
        faults("aunt", Made::full, 0);
        faults("spread 5;aunt", Made::full, 9);
    }

    /** "or how many bytes there are if it ends too early": blanks count. */
    private static void endsTooEarly() {
        String[] early = {"", "aunt;", "aunt cause", "aunt temper", "aunt cause 5 temper", "height", "spread",
            "dispute",
            "dispute 0", "dispute 0 1", "aunt;aunt;", "spread 5;height"};
        for (String text : early) {
            for (String blanks : new String[] {"", " ", "   "}) {
                faults(text + blanks, Made::nothing, text.length() + blanks.length());
                faults(blanks + text, Made::nothing, text.length() + blanks.length());
            }
        }
        for (String text : new String[] {"aunt", "aunt cause 5", "aunt temper 5", "aunt silent", "height 5", "spread 5",
            "dispute 0 1 2"}) {
            reads(text + "   ", Made::nothing, 1);
        }
    }

    /** 32: "how many ITEMS", "item by item". */
    private static void howManyItems() {
        StringBuilder text = new StringBuilder("twin");
        for (int n = 1; n <= 8; n++) {
            reads(text.toString(), Made::nothing, n);
            text.append(";twin");
        }
        StringBuilder spreads = new StringBuilder("spread0");
        for (int n = 1; n <= 15; n++) {
            String read = spreads.toString();
            reads(read, Made::full, n);
            Edge.answers("32: the last of " + n, x -> Due.text(x, read), x -> x.court(1), (n - 1) % 10);
            spreads.append(";spread").append(n % 10);
        }
    }

    /** A text of all 120 bytes, and FAULTS at its end. */
    private static void wholeTape() {
        String items = "spread 1;height 2;dispute 3 4 5;aunt cause 6 temper 7 silent;twin";
        String whole = items + " ".repeat(120 - items.length());
        reads(whole, Made::nothing, 5);
        reads(" ".repeat(120 - items.length()) + items, Made::nothing, 5);
        faults(" ".repeat(120), Made::nothing, 120);
        faults("a".repeat(120), Made::nothing, 0);
        faults("1".repeat(120), Made::nothing, 0);
        faults(";".repeat(120), Made::nothing, 0);
        faults(whole.substring(0, 119) + "#", Made::nothing, 119);
        faults(whole.substring(0, 119) + ";", Made::nothing, 120);
        faults("height " + "0".repeat(113), Made::nothing, 7);
        reads("height " + "0".repeat(112) + "1", Made::nothing, 1);
        faults(" ".repeat(113) + "heights", Made::nothing, 113);
        faults(" ".repeat(114) + "height", Made::nothing, 120);
        reads(" ".repeat(116) + "aunt", Made::nothing, 1);
    }

    /** 32: "(nothing changes but that THE TAPE is empty; ..)": all that stood ahead of the FAULT, too. */
    private static void faultChangesNothing() {
        faults("height 5;spread 5;dispute 5 5 5;height 61", Made::full, 39);
        faults("aunt cause 1 temper 2 silent;height 5;spread 5;dispute 5 5 5;", Made::lawyers, 61);
        faults("aunt cause 1 temper 2 silent;aunt cause", Made::lawyers, 39);
        Edge.answers("32: the tape is empty behind a text", Made::full, x -> Edge.then(x.text(), x.count(5)), 0);
        Edge.answers("32: the tape is empty behind a FAULT", x -> {
            Made.full(x);
            x.feed('#', 1);
        }, x -> Edge.then(x.text(), x.count(5)), 0);
        Edge.answers("32: a text twice", Made::full, x -> Edge.then(x.text(), x.text()), -1);
        // Who came with a text that had a FAULT is not there, and a new one has nothing of it.
        for (int what = 1; what < 6; what++) {
            int w = what;
            int[] want = {6, 50, 20, 0, 0, 0};
            Edge.answers("32: of(2, " + w + ") of a new one behind a FAULT", x -> {
                Made.lawyers(x);
                Due.text(x, "aunt cause 1 temper 2 silent;x");
                Due.text(x, "twin");
            }, x -> x.of(2, w), want[w]);
        }
    }

    /** 32: "(.. no finding)": -1 less the FAULT, -121 at least. */
    private static void noFinding() {
        for (String text : new String[] {"", "x", "height 61", " ".repeat(120)}) {
            ToastCourt x = Edge.made(Made::full);
            int all = x.status(-1);
            x.wipe();
            Due.feed(x, text);
            int answer = x.text();
            Due.due("32: -121 to -1 of \"" + text + "\"", answer >= -121 && answer <= -1 ? 1 : 0, 1);
            Due.due("32: no finding with \"" + text + "\"", x.status(-1), all);
        }
    }
}
