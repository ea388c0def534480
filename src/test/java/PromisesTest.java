import java.util.NoSuchElementException;

/** For each promise of the document: ordinary calls, the edges it names, and wrong inputs. */
public final class PromisesTest {
    private static final long WHOLE = 1000000000000L;
    private static final int MIN = Integer.MIN_VALUE;
    private static final int MAX = Integer.MAX_VALUE;
    private static int wrong = 0;
    private static int asked = 0;
    private static int promise = 0;

    private static void due(String call, long got, long want) {
        asked++;
        if (got != want) {
            wrong++;
            System.out.println("promise " + promise + ": " + call + " answered " + got + ", due is " + want);
        }
    }

    private static void due(String call, boolean got, boolean want) {
        due(call, got ? 1 : 0, want ? 1 : 0);
    }

    /** The ROW has just these numbers. */
    private static void row(NamesInBags x, long... want) {
        due("count(5)", x.count(5), want.length);
        for (int i = 0; i < want.length; i++) {
            due("row(" + i + ")", numberAt(x, i), want[i]);
        }
        due("row(" + want.length + ")", numberAt(x, want.length), Long.MIN_VALUE);
    }

    /** Long.MIN_VALUE where row throws. */
    private static long numberAt(NamesInBags x, int i) {
        try {
            return x.row(i);
        } catch (NoSuchElementException e) {
            return Long.MIN_VALUE;
        }
    }

    private static void text(NamesInBags x, String t) {
        x.end(0);
        String padded = t + "    ";
        for (int i = 0; i < t.length(); i += 4) {
            int v = 0;
            for (int k = 0; k < 4; k++) {
                v = v << 8 | padded.charAt(i + k);
            }
            x.sign(v);
        }
        due("end of " + t, x.end(t.length()), true);
    }

    private static int rule(NamesInBags x, String t) {
        text(x, t);
        return x.rule();
    }

    private static int other(NamesInBags x, int i, String t) {
        text(x, t);
        return x.other(i);
    }

    /** PERSONS of these HOUSES. */
    private static NamesInBags town(int... houses) {
        NamesInBags x = new NamesInBags();
        for (int h : houses) {
            x.person(h);
        }
        return x;
    }

    /** As many PERSONS, each of a HOUSE of its own as long as there are some, all in BAG 0. */
    private static NamesInBags packed(int persons) {
        NamesInBags x = new NamesInBags();
        for (int p = 0; p < persons; p++) {
            x.person(p % 6);
        }
        x.pack(0, (1 << persons) - 1);
        return x;
    }

    /** Ten PERSONS, DRAWINGS of three SEATS: the first one ends in 120 ways, the second one in too many. */
    private static NamesInBags vast() {
        NamesInBags x = packed(10);
        x.drawing(0, 0, 3);
        x.drawing(10, 0, 3);
        x.seldom();
        return x;
    }

    private static final long[] AS_VAST = {WHOLE};

    /** That just three of ten sit: two in two orders make one CHEST, three come from three such. */
    private static final long THREE_OF_TEN = 3 * (2 * (WHOLE / 10 / 9) / 8);

    private static void p1() {
        NamesInBags x = new NamesInBags();
        for (int what = 0; what <= 9; what++) {
            due("count(" + what + ")", x.count(what), 0);
        }
        for (int bag = 0; bag < 2; bag++) {
            due("bag in", x.bag(bag, 0), 0);
            due("bag aside", x.bag(bag, 1), 0);
        }
        row(x);
        due("run()", x.run(), -1);
        due("seed(0)", x.seed(0), 1);
        due("rule()", x.rule(), 0);
        due("again(0)", x.again(0), false);
        due("NONE", NamesInBags.NONE, -1);
    }

    private static void p2() {
        NamesInBags x = new NamesInBags();
        for (int h : new int[] {-1, 6, MIN, MAX}) {
            due("person(" + h + ")", x.person(h), -1);
        }
        for (int p = 0; p < 10; p++) {
            due("person", x.person(p % 6), p);
            due("count(0)", x.count(0), p + 1);
        }
        due("the eleventh", x.person(0), -1);
        due("count(0)", x.count(0), 10);
        x.pack(0, 1 << 5 | 1 << 6);
        x.drawing(0, 0, 1);
        x.house(5, 0);
        row(x, WHOLE / 2, WHOLE / 2);
    }

    private static void p3() {
        NamesInBags x = packed(2);
        x.drawing(500, 0, 1);
        rule(x, "dt");
        due("debt(0, 501)", x.debt(0, 501), 0);
        due("bars(0), a day ahead of its end", x.bars(0), 0);
        due("debt(0, 500)", x.debt(0, 500), 501);
        due("bars(0), at its end", x.bars(0), -2);
        due("bars(1)", x.bars(1), -2);
        due("debt(0, 999)", x.debt(0, 999), 500);
        for (int day : new int[] {-1, 1000, MIN, MAX}) {
            due("debt(0, " + day + ")", x.debt(0, day), -1);
        }
        for (int p : new int[] {-1, 2, 10, MIN, MAX}) {
            due("debt(" + p + ", 1)", x.debt(p, 1), -1);
        }
        due("debt(0, 0)", x.debt(0, 0), 999);
        due("debt(0, 0)", x.debt(0, 0), 0);
        x.begin();
        NamesInBags y = packed(1);
        y.debt(0, 0);
        y.drawing(0, 0, 1);
        rule(y, "dt");
        due("bars(0), never in debt", y.bars(0), -2);
    }

    private static void p4() {
        NamesInBags x = packed(2);
        rule(x, "wt");
        for (int day : new int[] {9, 10, 20, 21}) {
            x.drawing(day, 0, 1);
        }
        due("bars(0) at first", x.bars(0), -2);
        due("away(0, 10, 20)", x.away(0, 10, 20), true);
        due("bars(0) on 9", x.bars(0), -2);
        due("hold", x.hold(1, 1), true);
        due("bars(0) on 10", x.bars(0), 0);
        due("bars(1) on 10", x.bars(1), -2);
        due("away(0, 11, 20)", x.away(0, 11, 20), true);
        due("bars(0) on 10", x.bars(0), -2);
        due("away(0, 10, 10)", x.away(0, 10, 10), true);
        due("bars(0) on 10", x.bars(0), 0);
        for (int bad : new int[] {-1, 1000, MIN, MAX}) {
            due("away from " + bad, x.away(0, bad, 20), false);
            due("away to " + bad, x.away(0, 0, bad), false);
            due("away of " + bad, x.away(bad, 11, 9), false);
        }
        due("away(2, ..)", x.away(2, 0, 1), false);
        due("bars(0) as before", x.bars(0), 0);
        due("away(0, 999, 0)", x.away(0, 999, 0), true);
        due("bars(0), never away", x.bars(0), -2);
        due("away(0, 0, 999)", x.away(0, 0, 999), true);
        due("bars(0)", x.bars(0), 0);
    }

    private static void p5() {
        NamesInBags x = packed(2);
        x.drawing(50, 0, 1);
        due("dies(0, 51)", x.dies(0, 51), 1000);
        due("bars(0)", x.bars(0), -2);
        due("dies(0, 50)", x.dies(0, 50), 51);
        due("bars(0)", x.bars(0), -3);
        for (int bad : new int[] {-1, 1001, MIN, MAX}) {
            due("dies(0, " + bad + ")", x.dies(0, bad), -1);
            due("dies(" + bad + ", 0)", x.dies(bad, 0), -1);
        }
        due("dies(2, 0)", x.dies(2, 0), -1);
        due("judge its slip, then the other", x.judge(0x10, 2), 2);
        due("hold", x.hold(0x10, 2), true);
        due("its slip is torn", x.bag(0, 0) | x.bag(0, 1), 0);
        due("sat(0)", x.sat(0), -2);
        due("dies(0, 0)", x.dies(0, 0), 50);
        due("dies(0, 1000)", x.dies(0, 1000), 0);
        due("dies(0, 1000)", x.dies(0, 1000), 1000);
    }

    private static void p6() {
        NamesInBags x = town(0, 1, 2, 3);
        due("bytes", x.sheet(0, 4, 100, 30), 100 + 0 + 0 + 0);
        due("debt(0)", x.debt(0, 100), 100);
        due("debt(1): 130 as a byte is below 0", x.debt(1, 0), 0);
        due("bytes, the lowest bits", x.sheet(0, 2, 256 + 5, 256), 5 + 5);
        due("shorts", x.sheet(1, 3, 998, 1), 998 + 999 + 999);
        due("debt(2)", x.debt(2, 999), 999);
        due("shorts, the lowest bits", x.sheet(1, 2, 65536 + 7, 32761), 7);
        due("debt(1): 32768 as a short is below 0", x.debt(1, 0), 0);
        due("ints", x.sheet(2, 3, 32768, -32700), 999 + 68 + 0);
        due("debt(1)", x.debt(1, 68), 68);
        due("ints wrap", x.sheet(2, 2, MAX, 1), 999 + 0);
        due("those behind the sheet owe nothing", x.sheet(2, 1, 8, 8), 8);
        due("debt(1)", x.debt(1, 5), 0);
        due("a sheet with none", x.sheet(0, 0, 9, 9), 0);
        due("debt(1)", x.debt(1, 5), 0);
        due("a sheet with more than there are", x.sheet(2, 10, 1, 1), 1 + 2 + 3 + 4);
        due("n below 0", x.sheet(0, -1, 9, 9), -2);
        due("n below 0", x.sheet(1, MIN, 9, 9), -2);
        due("n below 0", x.sheet(2, -1, 9, 9), -2);
        due("n above 10", x.sheet(2, 11, 9, 9), -1);
        due("n above 10", x.sheet(3, 11, 9, 9), -1);
        due("n above 10", x.sheet(0, MAX, 9, 9), -1);
        due("kind 4", x.sheet(4, -1, 9, 9), -1);
        due("kind -1", x.sheet(-1, -1, 9, 9), -1);
        due("kind least", x.sheet(MIN, 1, 9, 9), -1);
        due("nothing changed", x.debt(3, 4), 4);
        due("missing", x.sheet(3, -1, 9, 9), -3);
        due("all 0", x.debt(3, 7), 0);
        due("missing", x.sheet(3, 10, 9, 9), -3);
        due("all 0", x.debt(3, 0), 0);
        due("nobody", new NamesInBags().sheet(2, 10, 5, 5), 0);
    }

    private static void p7() {
        NamesInBags x = town(0, 0, 1);
        due("pack(0, 7)", x.pack(0, 7), 0);
        due("pack(1, 4)", x.pack(1, 4), 0);
        for (int bad : new int[] {8, -1, 1024, MIN, MAX}) {
            due("pack(0, " + bad + ")", x.pack(0, bad), -1);
        }
        for (int bad : new int[] {2, -1, MIN, MAX}) {
            due("pack(" + bad + ", 0)", x.pack(bad, 0), -1);
        }
        due("bag(0, 0)", x.bag(0, 0), 7);
        due("bag(1, 0)", x.bag(1, 0), 4);
        x.drawing(0, 0, 2);
        x.drawing(0, 0, 2);
        rule(x, "kl");
        due("hold", x.hold(0x210, 3), true);
        due("laid aside", x.bag(0, 1), 2);
        due("pack(0, 5)", x.pack(0, 5), 7);
        due("in it", x.bag(0, 0), 5);
        due("none aside", x.bag(0, 1), 0);
        due("drawings stay done", x.count(2), 1);
        due("sat(0) stays", x.sat(0), 0);
        due("pack(0, 0)", x.pack(0, 0), 5);
        due("bag(1, 0)", x.bag(1, 0), 4);
    }

    private static void p8() {
        NamesInBags x = town(0, 0, 1);
        x.pack(0, 3);
        x.drawing(0, 0, 2);
        x.drawing(0, 0, 1);
        rule(x, "kl");
        due("renew(2, true)", x.renew(2, true), false);
        due("renew(-1, true)", x.renew(-1, true), false);
        due("hold", x.hold(0x10, 2), true);
        due("laid aside", x.bag(0, 1), 2);
        x.keep(0);
        due("not renewed: the one aside is in it again", x.judge(1, 1), 1);
        due("not renewed: the other is not", x.judge(0, 1), 0);
        due("renew(0, true)", x.renew(0, true), true);
        due("renewed: as packed", x.judge(0, 1), 1);
        due("hold", x.hold(0, 1), true);
        due("the bag", x.bag(0, 0), 2);
        due("none aside", x.bag(0, 1), 0);
        x.again(0);
        due("renew(0, false)", x.renew(0, false), true);
        due("renew(1, true)", x.renew(1, true), true);
        due("not renewed", x.judge(0, 1), 0);
        // A BAG that has a slip is not made anew.
        NamesInBags y = packed(2);
        y.renew(0, true);
        y.drawing(0, 0, 1);
        y.drawing(0, 0, 2);
        y.drawing(0, 0, 2);
        due("hold", y.hold(0, 1), true);
        due("still one slip", y.judge(0, 1), 0);
        due("hold", y.hold(1, 1), true);
        due("anew", y.judge(0x10, 2), 2);
    }

    private static void p9() {
        NamesInBags x = packed(3);
        for (int bad : new int[] {-1, 1000, MIN, MAX}) {
            due("drawing(" + bad + ", 0, 1)", x.drawing(bad, 0, 1), -1);
        }
        for (int bad : new int[] {-1, 2, MIN, MAX}) {
            due("drawing(0, " + bad + ", 1)", x.drawing(0, bad, 1), -1);
        }
        for (int bad : new int[] {-1, 0, 4, MIN, MAX}) {
            due("drawing(0, 0, " + bad + ")", x.drawing(0, 0, bad), -1);
        }
        due("count(1)", x.count(1), 0);
        due("drawing(7, 0, 3)", x.drawing(7, 0, 3), 0);
        due("a day ahead", x.drawing(6, 0, 3), -1);
        due("the same day", x.drawing(7, 1, 1), 1);
        due("the last day", x.drawing(999, 0, 2), 2);
        due("one less", x.drawing(998, 0, 2), -1);
        due("run()", x.run(), 3);
        for (int d = 3; d < 6; d++) {
            due("drawing", x.drawing(999, 0, 1), d);
        }
        due("the seventh", x.drawing(999, 0, 1), -1);
        due("count(1)", x.count(1), 6);
        due("count(2)", x.count(2), 1);
    }

    private static void p10() {
        NamesInBags x = new NamesInBags();
        due("sign", x.sign('k' << 24 | 'b' << 16 | ';' << 8 | 'd'), 4);
        due("sign", x.sign('t' << 24), 8);
        x.end(5);
        due("the highest byte comes first", x.rule(), 2);
        for (int n = 4; n <= 40; n += 4) {
            due("sign", x.sign(-1), n);
        }
        due("more than 40", x.sign(0), -1);
        due("count(4)", x.count(4), 40);
        x.end(37);
        due("more than 40", x.sign(0), -1);
        due("count(4)", x.count(4), 37);
        x.end(36);
        due("sign", x.sign(0), 40);
    }

    private static void p11() {
        NamesInBags x = new NamesInBags();
        due("end(0)", x.end(0), true);
        due("end(1)", x.end(1), false);
        due("end(-1)", x.end(-1), false);
        text(x, "kb;dt");
        due("end(6)", x.end(6), false);
        due("end(least)", x.end(MIN), false);
        due("end(most)", x.end(MAX), false);
        due("count(4)", x.count(4), 5);
        due("end(5)", x.end(5), true);
        due("end(2)", x.end(2), true);
        due("count(4)", x.count(4), 2);
        due("end(3): they are gone", x.end(3), false);
        due("rule()", x.rule(), 1);
    }

    private static void p12() {
        NamesInBags x = new NamesInBags();
        due("kb", rule(x, "kb"), 1);
        due("all kinds", rule(x, "kb;s1t;s6l;dl;wb"), 5);
        due("the text is empty then", x.count(4), 0);
        due("count(3)", x.count(3), 5);
        due("seven lines", rule(x, "kb;dt;wl;kb;kb;kb;kb"), 7);
        String[] bad = {"x", "b", ";", "1", "k", "s", "kk", "k1", "s0b", "s7b", "sb", "s1", "s11b", "kbb", "kb;", "kb;;",
            "kb;b", "kb;k", "kb;s", "kb;s3", "kb ", "Kb", "kB"};
        int[] at = {0, 0, 0, 0, 1, 1, 1, 1, 1, 1, 1, 2, 2, 2, 3, 3, 3, 4, 4, 5, 2, 0, 1};
        for (int i = 0; i < bad.length; i++) {
            due(bad[i], rule(x, bad[i]), -1 - at[i]);
            due("the text is empty then", x.count(4), 0);
        }
        due("it stays", x.count(3), 7);
        String twenty = "kb;dt;wl;kb;kb;kb;kb";
        due("more than 20, whole lines", rule(x, twenty + ";kb"), -21);
        due("more than 20, a fault behind", rule(x, twenty + "xxxx"), -21);
        due("more than 20, a fault ahead", rule(x, "kb;dt;wl;kb;kb;kb;kx;kb"), -20);
        due("20 signs that end too early", rule(x, "s1b;s2b;s3b;s4b;s5b;"), -21);
        due("20 signs that end within a line", rule(x, "s1b;s2b;s3b;kb;kb;kb".substring(0, 19)), -20);
        due("21 that could go on", rule(x, "s1b;s2b;s3b;s4b;s5b;k"), -21);
        due("40 signs", rule(x, twenty + twenty), -21);
        due("it stays", x.count(3), 7);
        due("none", rule(x, ""), 0);
        due("count(3)", x.count(3), 0);
        // What the fates and kinds do.
        NamesInBags y = town(0, 0, 1);
        y.pack(0, 7);
        y.drawing(5, 0, 2);
        for (String fate : new String[] {"b", "t", "l"}) {
            rule(y, "k" + fate);
            y.begin();
            due("hold", y.hold(0x210, 3), true);
            due("in it by k" + fate, y.bag(0, 0), fate.equals("b") ? 2 : 0);
            due("aside by k" + fate, y.bag(0, 1), fate.equals("l") ? 2 : 0);
        }
        // The first LINE that bars tells.
        y.debt(1, 9);
        y.begin();
        rule(y, "dt;kl");
        due("hold", y.hold(0x210, 3), true);
        due("torn", y.bag(0, 0) | y.bag(0, 1), 0);
    }

    private static void p13() {
        NamesInBags x = town(0, 0, 1);
        text(x, "kb");
        due("other(3)", x.other(3), -100);
        due("the text is empty then", x.count(4), 0);
        text(x, "zz");
        due("other(-1), asked first", x.other(-1), -100);
        due("other(least)", x.other(MIN), -100);
        due("other(most)", x.other(MAX), -100);
        due("none told", x.count(9), 0);
        due("a fault", other(x, 1, "kx"), -2);
        due("the text is empty then", x.count(4), 0);
        due("none told", x.count(9), 0);
        due("kb;dt", other(x, 1, "kb;dt"), 2);
        due("told", x.count(9), 2);
        due("a fault", other(x, 1, "kb;"), -4);
        due("told still", x.count(9), 2);
        due("an empty one", other(x, 0, ""), 0);
        due("told", x.count(9), 3);
        due("THE RULE stays", x.count(3), 0);
        due("wl", other(x, 2, "wl"), 1);
        due("told", x.count(9), 7);
    }

    private static void p14() {
        NamesInBags x = packed(3);
        due("no drawing", x.bars(0), -1);
        x.drawing(10, 0, 1);
        x.drawing(20, 0, 1);
        x.drawing(30, 0, 1);
        rule(x, "kt;s1b;dl;wt;s2b");
        due("none", x.bars(0), -2);
        x.debt(0, 11);
        due("d", x.bars(0), 2);
        x.away(0, 10, 10);
        due("the first", x.bars(0), 2);
        x.debt(0, 10);
        due("w", x.bars(0), 3);
        x.dies(0, 10);
        due("dead", x.bars(0), -3);
        due("bars(-1)", x.bars(-1), -1);
        due("bars(3)", x.bars(3), -1);
        due("bars(least)", x.bars(MIN), -1);
        due("hold", x.hold(1, 1), true);
        due("sat in the one ahead; k bars none as none sits", x.bars(1), 1);
        due("hold", x.hold(2, 1), true);
        due("sat in the one before that", x.bars(1), 4);
        due("sat in the one ahead", x.bars(2), 1);
        due("hold", x.hold(0, 1), true);
        due("no drawing left", x.bars(1), -1);
    }

    private static void p15() {
        NamesInBags x = town(0, 0, 1, 2);
        due("no drawing", x.run(), -1);
        x.pack(0, 15);
        x.drawing(0, 0, 3);
        x.drawing(1, 0, 3);
        x.drawing(2, 1, 3);
        rule(x, "kl");
        // By the document's numbers: R 1, then (R without sign, by 65536) % n.
        int r = 1;
        int there = 15;
        int seated = 0;
        StringBuilder sit = new StringBuilder();
        StringBuilder drawn = new StringBuilder();
        boolean kin = false;
        while (seated < 3 && there != 0) {
            r = r * 1103515245 + 12345;
            long k = ((r & 0xffffffffL) / 65536) % Integer.bitCount(there);
            int p = 0;
            for (int q = 3; q >= 0; q--) {
                if ((there >> q & 1) != 0 && Integer.bitCount(there & (1 << q) - 1) == k) {
                    p = q;
                }
            }
            there &= ~(1 << p);
            drawn.append(p);
            if (p > 1 || !kin) {
                sit.append(p);
                seated++;
                kin |= p <= 1;
            }
        }
        due("run()", x.run(), seated);
        String all = sit.toString() + drawn;
        long[] want = new long[all.length()];
        for (int i = 0; i < want.length; i++) {
            want[i] = all.charAt(i) - '0';
        }
        row(x, want);
        due("R", x.seed(r), r);
        due("count(2)", x.count(2), 1);
        due("the one left", x.run(), 1);
        due("it ends as none is left", x.count(5), 2);
        due("an empty bag", x.run(), 0);
        row(x);
        x.seldom();
        due("no drawing left", x.run(), -1);
        row(x, WHOLE);
        // Those put by are in the bag again behind it.
        NamesInBags z = town(0, 0, 0);
        z.pack(0, 7);
        z.drawing(0, 0, 2);
        rule(z, "kb");
        due("one of the three", z.run(), 1);
        due("all were drawn", z.count(5), 4);
        due("the others are back", z.bag(0, 0), 7 & ~(1 << (int) numberAt(z, 0)));
        // The least R, whose next one is 12345: without sign and by 65536, 0: the least slip.
        NamesInBags y = packed(10);
        y.drawing(0, 0, 1);
        y.seed(MIN);
        due("run()", y.run(), 1);
        int next = MIN * 1103515245 + 12345;
        row(y, (next >>> 16) % 10, (next >>> 16) % 10);
        due("R", y.seed(0), next);
        due("sat", y.sat((next >>> 16) % 10), 0);
    }

    private static void p16() {
        NamesInBags x = town(0, 0, 1, 2);
        due("no drawing", x.judge(0, 0), -1);
        x.pack(0, 15);
        x.drawing(0, 0, 2);
        rule(x, "kb");
        due("none told", x.judge(0x3210, 0), 0);
        due("the first one is lowest", x.judge(0x32, 2), 2);
        due("all seats filled", x.judge(0x132, 3), 2);
        due("put by: not to be drawn again", x.judge(0x110, 3), 2);
        due("0, 1 put by, 2", x.judge(0x210, 3), 3);
        due("then it is over", x.judge(0x3210, 4), 3);
        due("no such slip", x.judge(0x54, 2), 0);
        due("9 is none", x.judge(9, 1), 0);
        due("10 is no slip", x.judge(0xA, 1), -1);
        due("15 is no slip", x.judge(0xF0, 2), -1);
        due("behind n nothing is looked at", x.judge(0xFF0, 1), 1);
        due("behind n nothing is looked at", x.judge(-16L, 1), 1);
        due("n -1", x.judge(0, -1), -1);
        due("n 11", x.judge(0, 11), -1);
        due("n 10", x.judge(0x9999999992L, 10), 1);
        due("n least", x.judge(0, MIN), -1);
        due("n most", x.judge(0, MAX), -1);
        due("nothing changes", x.bag(0, 0), 15);
        due("nothing changes", x.count(2), 0);
        due("nothing changes", x.sat(2), -2);
        NamesInBags y = packed(10);
        for (int d = 0; d < 4; d++) {
            y.drawing(0, 0, 3);
        }
        for (int p = 0; p < 10; p++) {
            y.debt(p, 1);
        }
        rule(y, "db");
        due("ten slips, all put by", y.judge(0x9876543210L, 10), 10);
    }

    private static void p17() {
        NamesInBags x = town(0, 0, 1, 2);
        due("no drawing", x.hold(0, 0), false);
        x.pack(0, 15);
        x.drawing(0, 0, 2);
        x.drawing(0, 1, 2);
        rule(x, "kb");
        due("not over", x.hold(0x10, 2), false);
        due("one too many", x.hold(0x3210, 4), false);
        due("no such", x.hold(0x29, 2), false);
        due("no slip", x.hold(0x2B, 2), false);
        due("n -1", x.hold(0x23, -1), false);
        due("n 11", x.hold(0x23, 11), false);
        due("none", x.hold(0, 0), false);
        due("nothing changes", x.bag(0, 0), 15);
        due("nothing changes", x.count(2), 0);
        x.seldom();
        due("hold", x.hold(0x210, 3), true);
        row(x, WHOLE);
        due("the one put by is in it again", x.bag(0, 0), 2 | 8);
        due("sat(0)", x.sat(0), 0);
        due("sat(1)", x.sat(1), -2);
        due("sat(2)", x.sat(2), 0);
        due("R stays", x.seed(1), 1);
        due("an empty bag: one slip can't be", x.hold(0, 1), false);
        due("an empty bag: over with none", x.hold(0, 0), true);
        due("count(2)", x.count(2), 2);
        due("no drawing left", x.hold(0, 0), false);
    }

    private static void p18() {
        NamesInBags x = packed(3);
        due("begin()", x.begin(), 0);
        x.pack(1, 6);
        x.drawing(0, 0, 2);
        x.drawing(5, 1, 1);
        x.debt(0, 3);
        rule(x, "dl");
        x.hold(0x210, 3);
        due("aside", x.bag(0, 1), 1);
        int r = x.run();
        due("run()", r, 1);
        int seed = x.seed(77);
        due("begin()", x.begin(), 2);
        due("R stays", x.seed(seed), 77);
        due("bag(0, 0)", x.bag(0, 0), 7);
        due("bag(0, 1)", x.bag(0, 1), 0);
        due("bag(1, 0)", x.bag(1, 0), 6);
        due("count(2)", x.count(2), 0);
        for (int p = 0; p < 3; p++) {
            due("sat", x.sat(p), -2);
        }
        due("drawings stay", x.count(1), 2);
        due("the rule stays", x.count(3), 1);
        due("debts stay", x.debt(0, 3), 3);
    }

    private static void p19() {
        NamesInBags x = packed(3);
        x.pack(1, 5);
        x.debt(2, 1);
        x.drawing(0, 1, 1);
        rule(x, "dl");
        due("in 0", x.bag(0, 0), 7);
        due("in 1", x.bag(1, 0), 5);
        due("hold", x.hold(0x02, 2), true);
        due("in 0", x.bag(0, 0), 7);
        due("in 1", x.bag(1, 0), 0);
        due("aside from 0", x.bag(0, 1), 0);
        due("aside from 1", x.bag(1, 1), 4);
        for (int bad : new int[] {-1, 2, MIN, MAX}) {
            due("bag(" + bad + ", 0)", x.bag(bad, 0), -1);
            due("bag(0, " + bad + ")", x.bag(0, bad), -1);
        }
    }

    private static void p20() {
        NamesInBags x = packed(2);
        x.pack(1, 3);
        x.drawing(0, 0, 1);
        x.drawing(0, 1, 1);
        due("in none", x.sat(0), -2);
        x.hold(0, 1);
        due("in 0", x.sat(0), 0);
        x.hold(0, 1);
        due("in 1", x.sat(0), 1);
        due("in none", x.sat(1), -2);
        for (int bad : new int[] {-1, 2, 10, MIN, MAX}) {
            due("sat(" + bad + ")", x.sat(bad), -1);
        }
    }

    private static void wrongDrawings(String what, java.util.function.IntUnaryOperator call, NamesInBags x) {
        // DRAWING 0 is done; 1, 2 are left.
        for (int bad : new int[] {-1, 0, 3, MIN, MAX}) {
            due(what + " of drawing " + bad, call.applyAsInt(bad), -1);
        }
        due("the row stays", x.count(5), 1);
        due("the row stays", numberAt(x, 0), WHOLE);
    }

    /** Four PERSONS, three DRAWINGS of one SEAT, the first one done with PERSON 3; the ROW has WHOLE. */
    private static NamesInBags threeLeft() {
        NamesInBags x = town(0, 0, 1, 2);
        x.pack(0, 15);
        for (int d = 0; d < 3; d++) {
            x.drawing(10 * d, 0, 1);
        }
        x.hold(3, 1);
        x.seldom();
        return x;
    }

    private static void p21() {
        NamesInBags x = threeLeft();
        wrongDrawings("chance", d -> x.chance(0, d), x);
        for (int bad : new int[] {-1, 4, 10, MIN, MAX}) {
            due("chance(" + bad + ", 1)", x.chance(bad, 1), -1);
        }
        due("chance(0, 1)", x.chance(0, 1), 0);
        row(x, 333333333333L);
        due("chance(0, 2)", x.chance(0, 2), 0);
        row(x, 2 * 166666666666L);
        due("chance(3, 2)", x.chance(3, 2), 0);
        row(x, 0);
        NamesInBags v = vast();
        due("chance(0, 0)", v.chance(0, 0), 0);
        due("sums of cuts", numberAt(v, 0), 36 * THREE_OF_TEN);
        v.seldom();
        due("too many", v.chance(0, 1), -3);
        row(v, AS_VAST);
        due("NONE first", v.chance(10, 1), -1);
        due("NONE first", v.chance(0, 2), -1);
        // A CHEST that may come about in several ways is one: the shares are summed, then cut.
        NamesInBags y = packed(3);
        y.dies(0, 0);
        y.drawing(0, 0, 2);
        y.each(0);
        row(y, 0, 999999999996L, 999999999996L);
        limits();
    }

    /** 3000 unlike ones are not too many; more are. */
    private static void limits() {
        NamesInBags x = town(0, 1, 2, 3, 0, 1, 2, 3);
        x.renew(0, true);
        x.renew(1, true);
        x.pack(0, 255);
        x.pack(1, 226);
        x.drawing(0, 0, 3);
        x.drawing(10, 0, 2);
        x.drawing(20, 1, 2);
        due("3000 behind a draw, and ends", x.ways(2), 3000);
        NamesInBags ends = town(0, 1, 2, 0, 1, 2, 0, 1, 2);
        ends.debt(3, 15);
        ends.pack(0, 483);
        ends.pack(1, 157);
        ends.drawing(0, 0, 1);
        ends.drawing(10, 0, 2);
        ends.drawing(20, 0, 3);
        ends.drawing(30, 1, 2);
        rule(ends, "kt");
        due("3002 ends", ends.ways(3), -3);
        NamesInBags behind = town(0, 1, 2, 3, 4, 0, 1, 2);
        behind.dies(1, 10);
        behind.pack(0, 175);
        behind.pack(1, 190);
        behind.drawing(0, 0, 2);
        behind.drawing(10, 0, 1);
        behind.drawing(20, 1, 3);
        behind.drawing(30, 1, 3);
        due("3002 behind a draw", behind.ways(3), -3);
    }

    private static void p22() {
        NamesInBags x = threeLeft();
        wrongDrawings("each", x::each, x);
        due("each(1)", x.each(1), 0);
        row(x, 333333333333L, 333333333333L, 333333333333L, 0);
        rule(x, "dt");
        x.debt(2, 11);
        due("each(1)", x.each(1), 0);
        row(x, 333333333333L + 166666666666L, 333333333333L + 166666666666L, 0, 0);
        NamesInBags v = vast();
        due("too many", v.each(1), -3);
        row(v, AS_VAST);
        NamesInBags none = new NamesInBags();
        none.drawing(0, 0, 1);
        due("nobody", none.each(0), 0);
        row(none);
    }

    private static void p23() {
        NamesInBags x = threeLeft();
        for (int bad : new int[] {-1, 4, MIN, MAX}) {
            due("ever(" + bad + ")", x.ever(bad), -1);
        }
        due("ever(0)", x.ever(0), 0);
        row(x, 4 * 166666666666L);
        due("one who sat ahead", x.ever(3), 0);
        row(x, 0);
        x.run();
        x.run();
        x.seldom();
        due("no drawing left", x.ever(0), -1);
        row(x, WHOLE);
        // Sitting twice counts once.
        NamesInBags y = packed(2);
        y.renew(0, true);
        y.drawing(0, 0, 1);
        y.drawing(0, 0, 2);
        y.drawing(0, 0, 1);
        due("ever(0)", y.ever(0), 0);
        row(y, WHOLE);
        NamesInBags v = vast();
        due("too many", v.ever(0), -3);
        row(v, AS_VAST);
        due("NONE first", v.ever(10), -1);
    }

    private static void p24() {
        NamesInBags x = threeLeft();
        wrongDrawings("empty", x::empty, x);
        due("empty(1)", x.empty(1), 0);
        row(x, 0, 0, 999999999999L);
        NamesInBags y = town(0, 0, 1);
        y.pack(0, 7);
        y.drawing(0, 0, 3);
        rule(y, "kt");
        due("empty(0)", y.empty(0), 0);
        long six = 6 * (WHOLE / 3 / 2);
        row(y, six, 0, 0, six, 0);
        y.pack(0, 0);
        due("an empty bag", y.empty(0), 0);
        row(y, WHOLE, WHOLE, 0, 0, 0);
        NamesInBags v = vast();
        due("too many", v.empty(1), -3);
        row(v, AS_VAST);
    }

    private static void p25() {
        NamesInBags x = threeLeft();
        wrongDrawings("vain", x::vain, x);
        due("vain(1)", x.vain(1), 0);
        row(x, WHOLE, 0);
        due("of that one alone", x.vain(2), 0);
        row(x, 999999999999L, 0);
        x.dies(0, 0);
        due("vain(1)", x.vain(1), 0);
        row(x, WHOLE + 333333333333L, 333333333333L);
        x.pack(0, 0);
        due("nothing to draw", x.vain(1), 0);
        row(x, 0, 0);
        NamesInBags v = vast();
        due("too many", v.vain(1), -3);
        row(v, AS_VAST);
    }

    private static void p26() {
        NamesInBags x = threeLeft();
        wrongDrawings("house", d -> x.house(0, d), x);
        for (int bad : new int[] {-1, 6, MIN, MAX}) {
            due("house(" + bad + ", 1)", x.house(bad, 1), -1);
        }
        due("house(0, 1)", x.house(0, 1), 0);
        row(x, 666666666666L, 666666666666L);
        due("a house of nobody", x.house(5, 1), 0);
        row(x, 0, 0);
        NamesInBags y = town(0, 0, 1);
        y.pack(0, 7);
        y.drawing(0, 0, 2);
        due("two of a house may sit", y.house(0, 0), 0);
        row(y, 6 * (WHOLE / 3 / 2), 8 * (WHOLE / 3 / 2));
        NamesInBags v = vast();
        due("too many", v.house(0, 1), -3);
        row(v, AS_VAST);
    }

    private static void p27() {
        NamesInBags x = threeLeft();
        wrongDrawings("ways", x::ways, x);
        due("ways(1)", x.ways(1), 3);
        due("ways(2)", x.ways(2), 6);
        row(x, WHOLE);
        NamesInBags v = vast();
        due("ways(0)", v.ways(0), 120);
        due("too many", v.ways(1), -3);
        // Put by or never drawn: alike as it ends.
        NamesInBags y = town(0, 0);
        y.pack(0, 3);
        y.debt(1, 5);
        y.drawing(0, 0, 1);
        rule(y, "db");
        due("put by or not", y.ways(0), 1);
        rule(y, "dt");
        due("torn or not", y.ways(0), 2);
        y.pack(0, 0);
        due("an empty bag", y.ways(0), 1);
    }

    private static void p28() {
        NamesInBags x = threeLeft();
        wrongDrawings("sure", d -> x.sure(d, 0), x);
        for (int bad : new int[] {-1, 2, MIN, MAX}) {
            due("sure(1, " + bad + ")", x.sure(1, bad), -1);
        }
        due("in all", x.sure(1, 0), 0);
        due("in some", x.sure(1, 1), 7);
        rule(x, "dt");
        x.debt(0, 99);
        x.debt(2, 99);
        due("in all", x.sure(1, 0), 2);
        due("in some", x.sure(1, 1), 2);
        due("none is left", x.sure(2, 0), 0);
        due("none is left", x.sure(2, 1), 0);
        row(x, WHOLE);
        NamesInBags v = vast();
        due("too many", v.sure(1, 0), -3);
        due("too many", v.sure(1, 1), -3);
        due("NONE first", v.sure(1, 2), -1);
    }

    private static void p29() {
        NamesInBags x = threeLeft();
        wrongDrawings("sit", d -> x.sit(d, 1), x);
        for (int bad : new int[] {-1, 16, MIN, MAX}) {
            due("sit(1, " + bad + ")", x.sit(1, bad), -1);
        }
        due("one", x.sit(1, 4), 1);
        row(x, 333333333333L);
        due("none", x.sit(1, 0), 0);
        row(x, 0);
        due("two", x.sit(1, 5), 0);
        row(x, 0);
        due("one who can't", x.sit(1, 8), 0);
        x.pack(0, 0);
        due("none, from an empty bag", x.sit(1, 0), 1);
        row(x, WHOLE);
        NamesInBags v = vast();
        due("sit(0, 7)", v.sit(0, 7), 1);
        row(v, THREE_OF_TEN);
        v.seldom();
        due("too many", v.sit(1, 7), -3);
        row(v, AS_VAST);
        due("NONE first", v.sit(1, 1024), -1);
    }

    private static void p30() {
        NamesInBags x = packed(3);
        due("no drawing", x.known(), -1);
        x.drawing(0, 0, 1);
        x.drawing(0, 0, 1);
        x.seldom();
        due("none", x.known(), -2);
        row(x, WHOLE);
        x.drawing(0, 1, 1);
        x.drawing(0, 1, 3);
        x.pack(1, 4);
        due("known()", x.known(), 2);
        row(x, 4);
        x.pack(1, 6);
        x.debt(0, 9);
        x.debt(1, 9);
        rule(x, "db");
        due("the first", x.known(), 0);
        row(x, 4);
        rule(x, "");
        x.hold(0, 1);
        due("known()", x.known(), -2);
        x.hold(1, 1);
        x.hold(2, 1);
        due("known()", x.known(), 3);
        row(x, 2);
        x.hold(1, 1);
        due("no drawing left", x.known(), -1);
        NamesInBags v = vast();
        due("too many", v.known(), -3);
        row(v, AS_VAST);
        // Too many behind the one that is found is no harm.
        NamesInBags w = packed(10);
        w.pack(1, 1);
        w.drawing(0, 1, 1);
        w.drawing(0, 0, 3);
        w.drawing(0, 0, 3);
        due("known()", w.known(), 0);
        row(w, 1);
    }

    private static void p31() {
        NamesInBags x = town(0, 0, 1, 2);
        x.pack(0, 8);
        x.pack(1, 3);
        x.drawing(0, 0, 1);
        x.drawing(0, 0, 1);
        due("best for 0, first", x.best(0, 7, 0, 0, 0), 0);
        row(x, 9, WHOLE / 2);
        due("best for 0, then: the fewest slips", x.best(0, 7, 0, 1, 0), 0);
        row(x, 9, WHOLE / 2);
        due("worst for 0: the fewest slips", x.best(0, 7, 0, 0, 1), 0);
        row(x, 8, 0);
        due("best for 3, then: the least bits", x.best(0, 7, 3, 1, 0), 0);
        row(x, 9, WHOLE / 2);
        due("worst for 3", x.best(0, 7, 3, 0, 1), 0);
        row(x, 15, WHOLE / 4);
        due("none to choose", x.best(0, 0, 3, 0, 1), 0);
        row(x, 8, WHOLE);
        due("the other bag", x.best(1, 3, 3, 0, 0), 0);
        row(x, 0, WHOLE);
        due("nothing changes", x.count(7), 8);
        due("nothing changes", x.bag(0, 0), 8);
        due("nothing changes", x.bag(1, 0), 3);
        x.hold(3, 1);
        due("done ones, too", x.best(0, 7, 0, 0, 0), 0);
        row(x, 9, WHOLE / 2);
        due("nothing changes", x.count(2), 1);
        due("nothing changes", x.sat(3), 0);
        x.seldom();
        for (int bad : new int[] {-1, 2, MIN, MAX}) {
            due("bag", x.best(bad, 7, 0, 0, 0), -1);
            due("drawing", x.best(0, 7, 0, bad, 0), -1);
            due("what", x.best(0, 7, 0, 0, bad), -1);
        }
        for (int bad : new int[] {-1, 16, MIN, MAX}) {
            due("bits", x.best(0, bad, 0, 0, 0), -1);
        }
        due("person", x.best(0, 7, 4, 0, 0), -1);
        due("person", x.best(0, 7, -1, 0, 0), -1);
        row(x, WHOLE);
        NamesInBags v = vast();
        due("seven to choose", v.best(0, 127, 0, 0, 0), -1);
        due("six to choose", v.best(0, 126, 0, 0, 0), 0);
        due("the fewest beside", numberAt(v, 0), 1 + 896);
        v.seldom();
        due("too many of some", v.best(0, 63, 0, 1, 0), -3);
        row(v, AS_VAST);
        due("NONE first", v.best(0, 63, 10, 1, 0), -1);
        due("renewed as it is packed then", renewedBest(), WHOLE);
    }

    private static long renewedBest() {
        NamesInBags x = town(0, 1);
        x.renew(0, true);
        x.drawing(0, 0, 1);
        x.drawing(0, 0, 1);
        due("best", x.best(0, 3, 1, 1, 0), 0);
        due("alone in the bag, twice", numberAt(x, 0), 2);
        return numberAt(x, 1);
    }

    private static void p32() {
        NamesInBags x = town(0, 1, 1, 2);
        x.pack(0, 8);
        x.drawing(0, 0, 1);
        x.drawing(0, 0, 2);
        due("house 0 never", x.never(0, 7, 0, 0), 4);
        row(x, 14);
        due("house 2 always may", x.never(0, 7, 2, 0), 0);
        row(x);
        due("house 1 never, and two seats may be filled", x.never(0, 7, 1, 1), 0);
        row(x);
        due("house 5 never: 3 slips at least", x.never(0, 7, 5, 1), 4);
        row(x, 15);
        due("the most slips, the least bits", x.never(0, 6, 0, 0), 4);
        row(x, 14);
        rule(x, "wt");
        x.away(0, 0, 0);
        x.away(3, 0, 0);
        due("away", x.never(0, 7, 0, 0), 6);
        row(x, 15);
        due("nothing changes", x.count(7), 8);
        x.seldom();
        for (int bad : new int[] {-1, 2, MIN, MAX}) {
            due("bag", x.never(bad, 7, 0, 0), -1);
            due("drawing", x.never(0, 7, 0, bad), -1);
        }
        due("house", x.never(0, 7, 6, 0), -1);
        due("house", x.never(0, 7, -1, 0), -1);
        due("bits", x.never(0, 16, 0, 0), -1);
        due("bits", x.never(0, -1, 0, 0), -1);
        row(x, WHOLE);
        // 2 can sit in the second one alone; of 0 and 1 one at most may be packed, to be gone by then.
        NamesInBags y = town(0, 0, 1);
        y.pack(0, 4);
        y.debt(2, 10);
        y.drawing(0, 0, 1);
        y.drawing(10, 0, 1);
        rule(y, "db");
        due("never", y.never(0, 3, 0, 1), 3);
        row(y, 5);
        NamesInBags v = vast();
        due("seven to choose", v.never(0, 127, 0, 0), -1);
        due("too many of some", v.never(0, 1, 0, 1), -3);
        row(v, AS_VAST);
    }

    private static void p33() {
        NamesInBags x = town(0, 0, 1, 2);
        x.pack(0, 8);
        x.drawing(0, 0, 2);
        rule(x, "kt");
        due("all alike is nobody of the three", x.even(0, 7, 7, 0), 0);
        due("the least", numberAt(x, 1) < WHOLE, true);
        due("0, 1 alike: the most slips", x.even(0, 7, 3, 0), 0);
        row(x, 15, 0);
        due("one alone", x.even(0, 7, 1, 0), 0);
        row(x, 15, 0);
        due("1, 2: the most slips of equal ones", x.even(0, 6, 6, 0), 0);
        row(x, 14, 0);
        due("0 and 3, which stays", x.even(0, 1, 9, 0), 0);
        row(x, 9, 0);
        due("one that can't counts 0", x.even(0, 0, 9, 0), 0);
        row(x, 8, WHOLE);
        due("none of them", x.even(0, 6, 7, 0), 0);
        row(x, 8, 0);
        due("nothing changes", x.count(7), 8);
        x.seldom();
        for (int bad : new int[] {-1, 2, MIN, MAX}) {
            due("bag", x.even(bad, 7, 1, 0), -1);
        }
        for (int bad : new int[] {-1, 1, MIN, MAX}) {
            due("drawing", x.even(0, 7, 1, bad), -1);
        }
        for (int bad : new int[] {-1, 0, 16, MIN, MAX}) {
            due("who", x.even(0, 7, bad, 0), -1);
        }
        due("bits", x.even(0, 16, 1, 0), -1);
        row(x, WHOLE);
        // Of two that leave 0 and 1 unlike in the same way the one with the least bits is told.
        NamesInBags y = town(0, 1, 2);
        y.dies(0, 0);
        y.pack(0, 2);
        y.drawing(0, 0, 1);
        due("even", y.even(0, 5, 3, 0), 0);
        row(y, 7, WHOLE / 3 + WHOLE / 3 / 2);
        NamesInBags v = vast();
        due("seven to choose", v.even(0, 127, 1, 0), -1);
        due("too many of some", v.even(0, 1, 1, 1), -3);
        row(v, AS_VAST);
    }

    private static void p34() {
        NamesInBags x = town(0, 0, 1);
        x.pack(0, 7);
        x.drawing(0, 0, 2);
        x.drawing(0, 0, 1);
        x.debt(0, 1);
        rule(x, "db");
        x.seldom();
        due("none told", x.fair(7, 0), -4);
        row(x, WHOLE);
        other(x, 1, "kt");
        other(x, 2, "");
        due("the fairest", x.fair(7, 0), 2);
        row(x, 0);
        other(x, 0, "");
        due("of equal ones the first", x.fair(7, 0), 0);
        row(x, 0);
        rule(x, "");
        due("THE RULE first", x.fair(7, 0), 3);
        row(x, 0);
        rule(x, "dt");
        due("0, 1 alike by kt", x.fair(3, 0), 0);
        row(x, 0);
        due("THE RULE stays", x.count(3), 1);
        x.hold(0x21, 2);
        due("from the chest of now", x.fair(1, 1), 3);
        row(x, 0);
        due("done", x.fair(1, 0), -1);
        x.seldom();
        for (int bad : new int[] {-1, 0, 2, MIN, MAX}) {
            due("drawing", x.fair(1, bad), -1);
        }
        for (int bad : new int[] {-1, 0, 8, MIN, MAX}) {
            due("who", x.fair(bad, 1), -1);
        }
        row(x, WHOLE);
        NamesInBags v = vast();
        due("too many, though none told", v.fair(1, 1), -3);
        other(v, 0, "kb");
        due("too many", v.fair(1, 1), -3);
        rule(v, "wt");
        due("fine", v.fair(1, 0), 3);
        NamesInBags one = town(0, 0, 0, 0, 0, 0, 0, 0, 0, 0);
        one.pack(0, 1023);
        one.drawing(0, 0, 3);
        one.drawing(0, 0, 3);
        rule(one, "kt");
        one.seldom();
        due("ways by THE RULE", one.ways(1), 10);
        other(one, 2, "kt;dt");
        due("fair", one.fair(3, 1), 3);
        one.seldom();
        other(one, 1, "");
        due("too many by the other", one.fair(3, 1), -3);
        row(one, WHOLE);
    }

    private static void p35() {
        NamesInBags x = town(0, 0, 1);
        x.pack(0, 7);
        x.drawing(0, 0, 2);
        x.drawing(0, 0, 1);
        due("no line tells of it", x.war(7, 0), 0);
        row(x, 0, 0);
        rule(x, "wb");
        due("all", x.war(7, 0), 0);
        due("some chance", numberAt(x, 0), 6 * (WHOLE / 3 / 2));
        due("as it is now", numberAt(x, 1), 0);
        due("nobody", x.war(0, 0), 0);
        row(x, 0, 0);
        x.away(0, 0, 0);
        x.away(1, 0, 0);
        due("now too", x.war(4, 0), 0);
        due("as it is now", numberAt(x, 1), numberAt(x, 0));
        due("0 and 1 are away still", x.bars(0) + x.bars(1), 0);
        due("2 is not", x.bars(2), -2);
        x.seldom();
        for (int bad : new int[] {-1, 8, MIN, MAX}) {
            due("bits", x.war(bad, 0), -1);
        }
        for (int bad : new int[] {-1, 2, MIN, MAX}) {
            due("drawing", x.war(1, bad), -1);
        }
        x.run();
        x.seldom();
        due("done", x.war(1, 0), -1);
        row(x, WHOLE);
        NamesInBags v = vast();
        due("too many", v.war(0, 1), -3);
        rule(v, "wb");
        due("too many as it is now", v.war(1023, 1), -3);
        row(v, AS_VAST);
        for (int p = 0; p < 10; p++) {
            v.away(p, 0, 20);
        }
        due("fine", v.war(1, 1), 0);
    }

    private static void p36() {
        NamesInBags x = packed(2);
        for (int bad : new int[] {-1, 4, MIN, MAX}) {
            due("list(" + bad + ")", x.list(bad), -1);
        }
        due("count(6)", x.count(6), 0);
        for (int i = 1; i <= 6; i++) {
            due("list", x.list(i % 4), i);
        }
        due("the seventh", x.list(0), -1);
        due("count(6)", x.count(6), 6);
        due("nobody", new NamesInBags().list(0), 1);
        due("nobody", new NamesInBags().list(1), -1);
    }

    private static void p37() {
        NamesInBags x = packed(2);
        due("wipe()", x.wipe(), 0);
        x.drawing(0, 0, 1);
        x.list(3);
        x.list(1);
        due("wipe()", x.wipe(), 2);
        due("count(6)", x.count(6), 0);
        due("list", x.list(1), 1);
        x.seldom();
        row(x, WHOLE / 2);
        due("wipe()", x.wipe(), 1);
        due("wipe()", x.wipe(), 0);
    }

    private static void p38() {
        NamesInBags x = town(0, 1, 2, 0);
        x.pack(0, 8);
        x.drawing(0, 0, 1);
        x.drawing(0, 0, 1);
        due("nothing listed", x.old(0, 7), 8);
        row(x, 8, 15);
        x.list(2);
        due("1 sat", x.old(0, 7), 4);
        row(x, 10, 15);
        x.list(1);
        due("then 0", x.old(0, 7), 2);
        row(x, 11, 15);
        x.hold(3, 1);
        due("as before all drawings", x.old(0, 7), 2);
        due("none to choose", x.old(0, 0), 0);
        row(x, 0, 0);
        due("the other bag is no help", x.old(1, 7), 0);
        row(x, 0, 0);
        x.wipe();
        x.list(0);
        x.list(0);
        due("none sat: the bag is empty", x.old(0, 15), 1);
        row(x, 0, 0);
        x.seldom();
        x.list(0);
        due("more listed than drawings", x.old(0, 7), -1);
        x.wipe();
        for (int bad : new int[] {-1, 2, MIN, MAX}) {
            due("bag", x.old(bad, 7), -1);
        }
        for (int bad : new int[] {-1, 16, MIN, MAX}) {
            due("bits", x.old(0, bad), -1);
        }
        due("nothing changes", x.count(7), 8);
        NamesInBags v = vast();
        due("seven to choose", v.old(0, 127), -1);
        v.list(7);
        due("six to choose", v.old(0, 63), 8);
        row(v, 7 + 960, 1023);
        v.list(7 << 3);
        due("only what was listed goes on", v.old(0, 63), 1);
        v.wipe();
        NamesInBags w = tornOnes();
        w.seldom();
        w.list(512);
        due("that can be by all", w.old(0, 1), 2);
        row(w, 1022, 1023);
        w.seldom();
        long told = numberAt(w, 0);
        w.list(0);
        due("too many of some", w.old(0, 1), -3);
        row(w, told);
    }

    /** PERSON 9 sits first, and any of nine dead ones may be torn ahead of it; then seven more slips lie in BAG 1. */
    private static NamesInBags tornOnes() {
        NamesInBags x = packed(10);
        x.pack(1, 127);
        for (int p = 0; p < 9; p++) {
            x.dies(p, 0);
        }
        x.drawing(0, 0, 1);
        x.drawing(0, 1, 1);
        due("which are torn makes ways", x.ways(0), 512);
        return x;
    }

    private static void p39() {
        NamesInBags x = packed(3);
        due("nothing listed", x.seldom(), 0);
        row(x, WHOLE);
        x.drawing(0, 0, 1);
        x.drawing(0, 0, 1);
        x.list(1);
        due("one", x.seldom(), 0);
        row(x, 333333333333L);
        x.list(2);
        due("two", x.seldom(), 0);
        row(x, 166666666666L);
        x.hold(2, 1);
        due("from the first one on", x.seldom(), 0);
        row(x, 166666666666L);
        due("nothing changes", x.count(2), 1);
        x.list(4);
        due("more listed than drawings", x.seldom(), -1);
        row(x, 166666666666L);
        x.drawing(0, 0, 1);
        due("now there are", x.seldom(), 0);
        row(x, 166666666666L);
        x.wipe();
        x.list(1);
        x.list(1);
        due("can't be", x.seldom(), 0);
        row(x, 0);
        NamesInBags v = vast();
        v.list(7);
        v.list(7 << 3);
        due("those that were listed go on alone", v.seldom(), 0);
        row(v, 3 * (2 * (THREE_OF_TEN / 7 / 6) / 5));
        NamesInBags w = tornOnes();
        w.list(512);
        w.list(0);
        due("too many", w.seldom(), -3);
        row(w);
        w.wipe();
        w.list(1);
        w.list(0);
        due("none goes on, so none is too many", w.seldom(), 0);
        row(w, 0);
    }

    private static void p40() {
        NamesInBags x = packed(10);
        due("at first", x.seed(5), 1);
        due("seed", x.seed(MIN), 5);
        due("seed", x.seed(MAX), MIN);
        x.drawing(0, 0, 1);
        x.drawing(0, 0, 1);
        x.seed(99);
        x.run();
        int r = 99 * 1103515245 + 12345;
        due("a draw goes on from it", numberAt(x, 0), (r >>> 16) % 10);
        due("R", x.seed(1), r);
    }

    private static void p41() {
        NamesInBags x = packed(4);
        x.drawing(0, 0, 2);
        x.drawing(0, 0, 2);
        for (int bad : new int[] {-1, 3, MIN, MAX}) {
            due("keep(" + bad + ")", x.keep(bad), false);
        }
        x.seed(42);
        due("keep(0)", x.keep(0), true);
        x.run();
        due("keep(2)", x.keep(2), true);
        int bag = x.bag(0, 0);
        x.run();
        due("again(2)", x.again(2), true);
        due("bag", x.bag(0, 0), bag);
        due("again(0)", x.again(0), true);
        due("bag", x.bag(0, 0), 15);
        due("R", x.seed(1), 42);
        due("kept anew", x.keep(2), true);
        x.run();
        x.again(2);
        due("bag", x.bag(0, 0), 15);
    }

    private static void p42() {
        NamesInBags x = packed(4);
        x.debt(3, 9);
        x.pack(1, 9);
        rule(x, "dl");
        x.drawing(0, 0, 2);
        x.drawing(0, 0, 2);
        for (int bad : new int[] {-1, 0, 1, 2, 3, MIN, MAX}) {
            due("again(" + bad + ")", x.again(bad), false);
        }
        x.hold(0x103, 3);
        x.seed(7);
        x.keep(1);
        due("again(0)", x.again(0), false);
        due("again(33)", x.again(33), false);
        due("again(-31)", x.again(-31), false);
        x.run();
        x.seed(9);
        x.begin();
        x.pack(0, 1);
        due("again(1)", x.again(1), true);
        due("count(2)", x.count(2), 1);
        due("in", x.bag(0, 0), 4);
        due("aside", x.bag(0, 1), 8);
        due("the other", x.bag(1, 0), 9);
        due("sat(0)", x.sat(0), 0);
        due("sat(2)", x.sat(2), -2);
        due("R", x.seed(7), 7);
        due("what it is packed with is no part of it", x.count(7), 1);
        x.run();
        due("again(1), once more", x.again(1), true);
        due("count(2)", x.count(2), 1);
    }

    private static void p43() {
        NamesInBags x = packed(3);
        x.pack(1, 5);
        x.drawing(0, 0, 1);
        x.drawing(0, 0, 1);
        rule(x, "kb;dt;wl");
        other(x, 1, "kb");
        other(x, 2, "");
        x.run();
        x.list(1);
        x.list(1);
        x.list(1);
        text(x, "abcdef");
        int[] want = {3, 2, 1, 3, 6, 2, 3, 7, 5, 6};
        for (int what = 0; what < want.length; what++) {
            due("count(" + what + ")", x.count(what), want[what]);
        }
        for (int bad : new int[] {-1, 10, MIN, MAX}) {
            due("count(" + bad + ")", x.count(bad), -1);
        }
    }

    private static void p44() {
        NamesInBags x = packed(3);
        for (int bad : new int[] {-1, 0, 1, MIN, MAX}) {
            due("row(" + bad + ")", numberAt(x, bad), Long.MIN_VALUE);
        }
        x.drawing(0, 0, 2);
        x.each(0);
        long third = 4 * (WHOLE / 3 / 2);
        row(x, third, third, third);
        for (int bad : new int[] {-1, 3, 13, 14, MIN, MAX}) {
            due("row(" + bad + ")", numberAt(x, bad), Long.MIN_VALUE);
        }
        // The longest one: three sit, ten are drawn.
        NamesInBags y = packed(10);
        y.drawing(0, 0, 3);
        for (int p = 0; p < 10; p++) {
            y.debt(p, p < 3 ? 0 : 9);
        }
        rule(y, "db");
        due("hold ahead", y.judge(0x2109876543L, 10), 10);
        for (int r = 0; r < 4000 && y.count(5) != 13; r++) {
            y = r % 400 == 0 ? again(y) : y;
            y.begin();
            y.seed(r);
            y.run();
        }
        due("13 numbers", y.count(5), 13);
    }

    /** A new object like the one of p44, as one is used for 512 calls at most. */
    private static NamesInBags again(NamesInBags old) {
        NamesInBags y = packed(old.count(0));
        y.drawing(0, 0, 3);
        for (int p = 0; p < 10; p++) {
            y.debt(p, p < 3 ? 0 : 9);
        }
        rule(y, "db");
        return y;
    }

    public static void main(String[] args) {
        Runnable[] all = {PromisesTest::p1, PromisesTest::p2, PromisesTest::p3, PromisesTest::p4, PromisesTest::p5,
            PromisesTest::p6, PromisesTest::p7, PromisesTest::p8, PromisesTest::p9, PromisesTest::p10,
            PromisesTest::p11, PromisesTest::p12, PromisesTest::p13, PromisesTest::p14, PromisesTest::p15,
            PromisesTest::p16, PromisesTest::p17, PromisesTest::p18, PromisesTest::p19, PromisesTest::p20,
            PromisesTest::p21, PromisesTest::p22, PromisesTest::p23, PromisesTest::p24, PromisesTest::p25,
            PromisesTest::p26, PromisesTest::p27, PromisesTest::p28, PromisesTest::p29, PromisesTest::p30,
            PromisesTest::p31, PromisesTest::p32, PromisesTest::p33, PromisesTest::p34, PromisesTest::p35,
            PromisesTest::p36, PromisesTest::p37, PromisesTest::p38, PromisesTest::p39, PromisesTest::p40,
            PromisesTest::p41, PromisesTest::p42, PromisesTest::p43, PromisesTest::p44};
        for (Runnable one : all) {
            promise++;
            one.run();
        }
        System.out.println(asked + " answers of " + promise + " promises");
        System.out.println(wrong == 0 ? "all answers are as due" : wrong + " answers are not as due");
        if (wrong != 0) {
            System.exit(1);
        }
    }
}
