/** Promises 30 to 32: the tape and the texts. */
public final class TextTest {
    public static void main(String[] args) {
        feed();
        wipe();
        items();
        allKinds();
        blanksAndDigits();
        faults();
        ninth();
        faultChangesNothing();
        Due.end("TextTest");
    }

    private static void feed() {
        ToastCourt x = new ToastCourt();
        for (int n : new int[] {0, -1, 5, Integer.MAX_VALUE, Integer.MIN_VALUE}) {
            Due.finds(x, "30: feed(0, " + n + ")", () -> x.feed(0, n), Due.BEYOND);
        }
        // "spread 7", the highest of the lowest bytes first; what stands above them doesn't count.
        Due.due("30: feed(.., 1)", x.feed(0x41424373, 1), 1);
        Due.due("30: feed(.., 2)", x.feed(0x41427072, 2), 3);
        Due.due("30: feed(.., 3)", x.feed(0xff656164, 3), 6);
        Due.due("30: feed(.., 4)", x.feed(0x20203720, 4), 10);
        Due.due("30: count(5)", x.count(5), 10);
        Due.due("32: text()", x.text(), 1);
        Due.due("32: SPREAD", x.court(1), 7);
        for (int k = 0; k < 29; k++) {
            x.feed(-1, 4);
        }
        Due.due("30: 119 bytes", x.feed(-1, 3), 119);
        Due.finds(x, "30: feed(0, 2) behind 119", () -> x.feed(0, 2), Due.FULL);
        Due.finds(x, "30: feed(0, 4) behind 119", () -> x.feed(0, 4), Due.FULL);
        Due.due("30: the 120th", x.feed(0, 1), 120);
        Due.finds(x, "30: feed(0, 1) behind 120", () -> x.feed(0, 1), Due.FULL);
        Due.finds(x, "30: feed(0, 5) behind 120", () -> x.feed(0, 5), Due.BEYOND);
        Due.finds(x, "30: feed(0, 0) behind 120", () -> x.feed(0, 0), Due.BEYOND);
    }

    private static void wipe() {
        ToastCourt x = new ToastCourt();
        Due.due("31: wipe() of nothing", x.wipe(), 0);
        Due.feed(x, "spread 7");
        Due.due("31: wipe()", x.wipe(), 8);
        Due.due("31: wipe() again", x.wipe(), 0);
        Due.due("31: count(5)", x.count(5), 0);
        Due.feed(x, "spread 8");
        Due.due("31: text() of what came then", x.text(), 1);
        Due.due("31: SPREAD", x.court(1), 8);
    }

    private static void items() {
        ToastCourt x = new ToastCourt();
        Due.due("32: five items",
            Due.text(x, "height 60;spread 0;dispute 5 7 6;aunt cause 99 temper 0 silent;child"), 5);
        Due.due("32: count(5)", x.count(5), 0);
        Due.due("32: HEIGHT", x.court(0), 60);
        Due.due("32: SPREAD", x.court(1), 0);
        Due.due("32: listed(5)", x.listed(5), 76);
        Due.due("32: listed(0)", x.listed(0), 1);
        Due.due("32: count(1)", x.count(1), 2);
        int[][] want = {{1, 99, 0, 0, 0, 1}, {5, 50, 20, 0, 0, 0}};
        for (int d = 0; d < 2; d++) {
            for (int what = 0; what < 6; what++) {
                Due.due("32: of(" + d + ", " + what + ")", x.of(d, what), want[d][what]);
            }
        }
        Due.due("32: item by item, the last counts", Due.text(x, "height 5;height 6;spread 1;height 7"), 4);
        Due.due("32: HEIGHT of the last", x.court(0), 7);
        Due.due("32: the rest may each stand alone",
            Due.text(x, "twin temper 99;twin silent;twin cause 0;twin cause 1 silent;twin temper 3 silent"), 5);
        int[][] more = {{50, 99, 0}, {50, 20, 1}, {0, 20, 0}, {1, 20, 1}, {50, 3, 1}};
        for (int d = 0; d < 5; d++) {
            Due.due("32: CAUSE of " + (d + 2), x.of(d + 2, 1), more[d][0]);
            Due.due("32: TEMPER of " + (d + 2), x.of(d + 2, 2), more[d][1]);
            Due.due("32: SILENT of " + (d + 2), x.of(d + 2, 5), more[d][2]);
        }
        Due.due("32: dispute 0 0 0", Due.text(x, "dispute 0 0 0;dispute 1 7 7"), 2);
        Due.due("32: listed(0)", x.listed(0), 0);
        Due.due("32: listed(1)", x.listed(1), 77);
        Due.due("32: no finding", x.status(-1), 0);
    }

    private static void allKinds() {
        String[] words = {"disputant", "aunt", "lawyer", "parson", "bishop", "child", "twin"};
        ToastCourt x = new ToastCourt();
        for (int kind = 0; kind < 7; kind++) {
            Due.due("32: " + words[kind], Due.text(x, words[kind]), 1);
            Due.due("32: KIND of " + words[kind], x.of(kind, 0), kind);
        }
    }

    private static void blanksAndDigits() {
        ToastCourt x = new ToastCourt();
        Due.due("32: blanks", Due.text(x, "   spread   4  ;  height    33   "), 2);
        Due.due("32: SPREAD", x.court(1), 4);
        Due.due("32: HEIGHT", x.court(0), 33);
        Due.due("32: no blanks", Due.text(x, "child cause7temper8silent;spread5;height44"), 3);
        Due.due("32: CAUSE", x.of(0, 1), 7);
        Due.due("32: TEMPER", x.of(0, 2), 8);
        Due.due("32: SILENT", x.of(0, 5), 1);
        Due.due("32: HEIGHT", x.court(0), 44);
        Due.due("32: leading zeros", Due.text(x, "height 0000000000000000000000045;dispute 000 001 2"), 2);
        Due.due("32: HEIGHT", x.court(0), 45);
        Due.due("32: listed(0)", x.listed(0), 12);
        // What stood on the tape before is gone, behind its end, too.
        Due.due("32: a digit less", Due.text(x, "height 4"), 1);
        Due.due("32: HEIGHT", x.court(0), 4);
        Due.due("32: height 1", Due.text(x, "height 1"), 1);
        Due.due("32: HEIGHT", x.court(0), 1);
        Due.due("32: ends too early behind a blank that was", Due.text(x, "height"), -7);
        Due.due("32: a letter less", Due.text(x, "heigh"), -1);
        // 4294967297 would be 1 in an int.
        Due.due("32: many digits", Due.text(x, "height 4294967297"), -8);
        Due.due("32: very many digits", Due.text(x, "height 18446744073709551617"), -8);
    }

    private static void faults() {
        Object[][] rows = {
            {"", 0}, {" ", 1}, {"   ", 3}, {";", 0}, {"  ;", 2}, {"5", 0}, {"judge", 0}, {"Aunt", 0}, {"aunts", 0},
            {"aun", 0}, {"auntz", 0}, {"aaunt", 0}, {"bunt", 0}, {"weight 5", 0}, {"aunt pause 5", 5},
            {"cause 5", 0}, {"silent", 0}, {"temper", 0}, {"#", 0}, {"aunt;", 5}, {"aunt; ", 6},
            {"aunt;;", 5}, {"aunt aunt", 5}, {"aunt 5", 5}, {"aunt #", 5}, {"aunt#", 4}, {"aunt\t", 4},
            {"aunt\n;", 4}, {"aunt cause", 10}, {"aunt cause ", 11}, {"aunt cause ;", 11}, {"aunt cause x", 11},
            {"aunt cause 100", 11}, {"aunt cause 1000", 11}, {"aunt cause -1", 11}, {"aunt cause 99 5", 14},
            {"aunt cause 9 cause 9", 13}, {"aunt temper 9 cause 9", 14}, {"aunt temper 100", 12},
            {"aunt temper", 11}, {"aunt temper silent", 12}, {"aunt silent silent", 12},
            {"aunt silent temper 5", 12}, {"aunt silent cause 5", 12}, {"aunt silent 5", 12},
            {"aunt cause 5;height 61", 20}, {"height", 6}, {"height 0", 7}, {"height 61", 7}, {"height x", 7},
            {"height ;", 7}, {"height spread 5", 7}, {"height spread", 7}, {"height height 5", 7},
            {"height aunt", 7}, {"height dispute 0 1 2", 7}, {"spread height 5", 7}, {"spread spread 5", 7},
            {"spread 1;height spread 5", 16}, {"dispute height 5", 8}, {"dispute 0 spread 5", 10},
            {"dispute 0 1 height 5", 12}, {"aunt cause temper 5", 11}, {"aunt cause spread 5", 11},
            {"aunt temper height 5", 12}, {"height 5 5", 9}, {"height 5 silent", 9}, {"spread", 6}, {"spread 10", 7},
            {"spread 999", 7}, {"spread 5x", 8}, {"dispute", 7}, {"dispute 0", 9}, {"dispute 0 1", 11},
            {"dispute 6 0 0", 8}, {"dispute 0 8 0", 10}, {"dispute 0 0 8", 12}, {"dispute 0 0 0 0", 14},
            {"dispute 0;0 0", 9}, {"dispute a 0 0", 8}, {"dispute 012", 8}, {"disputes 0 0 0", 0},
            {"disputant disputant", 10}, {"spread 1,spread 2", 8}, {"spread 1;Spread 2", 9},
            {"spread 1;height", 15}, {"spread 1;height  ", 17}, {"\u00e9", 0}, {"aunt\u0000", 4}, {"aunt\u0080", 4},
            {"aunt`", 4}, {"aunt{", 4}, {"spread /", 7}, {"spread :", 7}, {"spread 1/", 8}, {"spread 1:", 8},
        };
        for (Object[] r : rows) {
            ToastCourt x = new ToastCourt();
            String was = Due.picture(x);
            String text = (String) r[0];
            Due.due("32: text \"" + text + "\"", Due.text(x, text), -1 - (Integer) r[1]);
            Due.due("32: nothing changes with \"" + text + "\"", was.equals(Due.picture(x)) ? 1 : 0, 1);
            Due.due("32: no finding with \"" + text + "\"", x.status(-1), 0);
        }
    }

    private static void ninth() {
        ToastCourt x = new ToastCourt();
        Due.due("32: nine in a text", Due.text(x, "twin;twin;twin;twin;twin;twin;twin;twin; twin x"), -42);
        Due.due("32: none of them came", x.count(1), 0);
        for (int d = 0; d < 7; d++) {
            x.disputant(0, 1);
        }
        Due.due("32: a 9th behind seven", Due.text(x, "aunt cause 3 ; bishop"), -16);
        Due.due("32: seven still", x.count(1), 7);
        Due.due("32: a fault ahead of the 9th", Due.text(x, "aunt cause 333 ; bishop"), -12);
        Due.due("32: an 8th", Due.text(x, "aunt cause 3"), 1);
        Due.due("32: eight", x.count(1), 8);
        Due.due("32: a 9th", Due.text(x, "aunt"), -1);
        Due.due("32: no 9th but others", Due.text(x, "spread 9;height 9"), 2);
        Due.due("32: no finding", x.status(-1), 0);
    }

    private static void faultChangesNothing() {
        ToastCourt x = new ToastCourt();
        x.disputant(0, 7);
        x.hold(3, 0);
        x.seed(99);
        x.go(3);
        String was = Due.picture(x);
        Due.due("32: all, then a fault",
            Due.text(x, "height 9;spread 9;dispute 3 4 5;aunt cause 4 temper 5 silent;height 99"), -69);
        Due.due("32: nothing has changed", was.equals(Due.picture(x)) ? 1 : 0, 1);
        Due.due("32: the tape is empty", x.count(5), 0);
        Due.due("32: the 2nd", Due.text(x, "lawyer"), 1);
        Due.due("32: is a lawyer like any", x.of(1, 1), 50);
        Due.due("32: and speaks", x.of(1, 5), 0);
        Due.due("32: DROP stays", x.now(0), 3);
        Due.due("32: spots stay", x.as(3, 0), 0);
        Due.due("32: z stays", x.count(6), 99);
    }
}
