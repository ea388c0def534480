import java.lang.annotation.Retention;
import java.lang.annotation.RetentionPolicy;
import java.lang.reflect.InvocationTargetException;
import java.lang.reflect.Method;
import java.nio.file.Files;
import java.nio.file.Path;
import java.util.ArrayList;
import java.util.Comparator;
import java.util.List;
import java.util.NoSuchElementException;
import java.util.function.Supplier;

/** A test of its own for each sentence of the document that names a boundary case. */
public final class EdgesTest {
    /** Which words of ../shared/DOC.md a test holds the class to, and under which heading they stand. */
    @Retention(RetentionPolicy.RUNTIME)
    private @interface Says {
        String at();

        String words();
    }

    private interface Call {
        long on(NamesInBags x);
    }

    private interface Question {
        boolean on(NamesInBags x);
    }

    private static final long WHOLE = 1000000000000L;
    private static final int MIN = Integer.MIN_VALUE;
    private static final int MAX = Integer.MAX_VALUE;
    private static final long THROWS = Long.MIN_VALUE;

    private static String now = "";
    private static int asked = 0;
    private static int wrong = 0;

    // ---- what the tests share

    private static void due(String call, long got, long want) {
        asked++;
        if (got != want) {
            wrong++;
            System.out.println(now + ": " + call + " answered " + got + ", due is " + want);
        }
    }

    private static void due(String call, boolean got, boolean want) {
        due(call, got ? 1 : 0, want ? 1 : 0);
    }

    private static long numberAt(NamesInBags x, int i) {
        try {
            return x.row(i);
        } catch (NoSuchElementException e) {
            return THROWS;
        }
    }

    /** The ROW has just these numbers. */
    private static void row(NamesInBags x, long... want) {
        due("count(5)", x.count(5), want.length);
        for (int i = 0; i < want.length; i++) {
            due("row(" + i + ")", numberAt(x, i), want[i]);
        }
        due("row(" + want.length + ") throws", numberAt(x, want.length), THROWS);
    }

    private static void text(NamesInBags x, String t) {
        x.end(0);
        String padded = t + "    ";
        for (int i = 0; i < t.length(); i += 4) {
            int v = 0;
            for (int k = 0; k < 4; k++) {
                v = v << 8 | padded.charAt(i + k);
            }
            x.sign(v);
        }
        x.end(t.length());
    }

    private static int rule(NamesInBags x, String t) {
        text(x, t);
        return x.rule();
    }

    private static int other(NamesInBags x, int i, String t) {
        text(x, t);
        return x.other(i);
    }

    /** PERSONS of these HOUSES, all in BAG 0. */
    private static NamesInBags town(int... houses) {
        NamesInBags x = new NamesInBags();
        for (int h : houses) {
            x.person(h);
        }
        x.pack(0, (1 << houses.length) - 1);
        return x;
    }

    /** So many PERSONS, no two kin as long as there are HOUSES, all in BAG 0. */
    private static NamesInBags packed(int persons) {
        int[] houses = new int[persons];
        for (int p = 0; p < persons; p++) {
            houses[p] = p % 6;
        }
        return town(houses);
    }

    /** A town in which everything that a call could change has been set; DRAWING 0 of 4 is done. */
    private static NamesInBags rich() {
        NamesInBags x = town(0, 0, 1, 2, 5);
        x.debt(0, 15);
        x.debt(3, 35);
        x.away(1, 5, 25);
        x.dies(4, 40);
        x.pack(1, 22);
        x.renew(1, true);
        x.drawing(10, 0, 2);
        x.drawing(20, 1, 1);
        x.drawing(30, 0, 3);
        x.drawing(40, 1, 2);
        other(x, 0, "kt");
        other(x, 2, "");
        rule(x, "dl;wb;s1t;kb");
        x.seed(4711);
        x.keep(0);
        due("the rich town's first drawing", x.hold(0x4210, 4), true);
        x.seed(-99);
        x.keep(2);
        x.list(20);
        x.list(2);
        text(x, "kb;w");
        x.each(1);
        return x;
    }

    /** All that calls can tell of an object; it is spent behind it. */
    private static List<Long> probe(NamesInBags x) {
        List<Long> all = new ArrayList<>();
        tellRow(all, x);
        tellChest(all, x);
        int persons = x.count(0);
        for (int p = 0; p < persons; p++) {
            all.add((long) x.bars(p));
        }
        int r = x.seed(0);
        all.add((long) r);
        x.seed(r);
        tellForesight(all, x);
        for (int p = 0; p < persons; p++) {
            int debt = x.debt(p, 0);
            x.debt(p, debt);
            int death = x.dies(p, 1000);
            x.dies(p, death);
            all.add((long) debt);
            all.add((long) death);
        }
        all.add((long) x.fair((1 << persons) - 1, x.count(1) - 1));
        tellRow(all, x);
        all.add((long) x.other(1));
        all.add((long) x.count(9));
        tellRuns(all, x);
        for (int i = 0; i < 3; i++) {
            all.add(x.again(i) ? 1L : 0L);
            tellChest(all, x);
            tellRuns(all, x);
        }
        return all;
    }

    private static void tellRow(List<Long> all, NamesInBags x) {
        all.add((long) x.count(5));
        for (int i = 0; i < x.count(5); i++) {
            all.add(numberAt(x, i));
        }
    }

    private static void tellChest(List<Long> all, NamesInBags x) {
        for (int what = 0; what <= 9; what++) {
            all.add((long) x.count(what));
        }
        for (int k = 0; k < 4; k++) {
            all.add((long) x.bag(k / 2, k % 2));
        }
        for (int p = 0; p < x.count(0); p++) {
            all.add((long) x.sat(p));
        }
    }

    private static void tellForesight(List<Long> all, NamesInBags x) {
        for (int d = 0; d < x.count(1); d++) {
            all.add((long) x.ways(d));
            all.add((long) x.each(d));
            tellRow(all, x);
        }
        all.add((long) x.seldom());
        tellRow(all, x);
        all.add((long) x.old(0, 1));
        tellRow(all, x);
        all.add((long) x.war(1, x.count(1) - 1));
        tellRow(all, x);
    }

    private static void tellRuns(List<Long> all, NamesInBags x) {
        for (int d = 0; d < 6; d++) {
            all.add((long) x.run());
        }
        tellRow(all, x);
        tellChest(all, x);
        int r = x.seed(1);
        all.add((long) r);
        x.seed(r);
    }

    private static void alike(String what, List<Long> got, List<Long> want) {
        int at = 0;
        while (at < got.size() && at < want.size() && got.get(at).equals(want.get(at))) {
            at++;
        }
        due(what + " (first unlike)", got.equals(want) ? -1 : at, -1);
    }

    /** The answer is due, and nothing changes, the ROW neither. */
    private static void stays(String call, Supplier<NamesInBags> town, Call c, long want) {
        NamesInBags x = town.get();
        due(call, c.on(x), want);
        alike(call + " changes nothing", probe(x), probe(town.get()));
    }

    /** The answer is due, and nothing but the ROW changes. */
    private static void asks(String call, Supplier<NamesInBags> town, Call c, long want) {
        NamesInBags x = town.get();
        due(call, c.on(x), want);
        NamesInBags y = town.get();
        x.seldom();
        y.seldom();
        alike(call + " changes no more than the row", probe(x), probe(y));
    }

    private static void refused(String call, Call c) {
        stays(call, EdgesTest::rich, c, -1);
    }

    private static void denied(String call, Question q) {
        stays(call, EdgesTest::rich, x -> q.on(x) ? 1 : 0, 0);
    }

    /** What bars a PERSON on a DAY, by a rule of one LINE. */
    private static int barsOn(int day, String rule, Call set) {
        NamesInBags x = town(0);
        set.on(x);
        x.drawing(day, 0, 1);
        rule(x, rule);
        return x.bars(0);
    }

    /** Ten PERSONS, two DRAWINGS of three SEATS: the first one ends in 120 ways, the second one in 4200. */
    private static NamesInBags vast() {
        NamesInBags x = packed(10);
        x.drawing(0, 0, 3);
        x.drawing(10, 0, 3);
        x.seldom();
        return x;
    }

    /** As vast(), but PERSON 9 is not PACKED: the second DRAWING ends in 84 times 20 ways. */
    private static NamesInBags lessVast() {
        NamesInBags x = vast();
        x.pack(0, 511);
        return x;
    }

    /** PERSON 9 sits first, any of nine dead ones torn ahead of it: 512 ways; then seven slips lie in BAG 1. */
    private static NamesInBags tornOnes() {
        NamesInBags x = packed(10);
        x.pack(1, 127);
        for (int p = 0; p < 9; p++) {
            x.dies(p, 0);
        }
        x.drawing(0, 0, 1);
        x.drawing(0, 1, 1);
        x.list(512);
        x.seldom();
        x.list(0);
        return x;
    }

    private static void tooMany(String call, Supplier<NamesInBags> town, Call c) {
        stays(call, town, c, -3);
    }

    // ---- Terms 1: persons, bags, drawings

    @Says(at = "Terms", words = "PERSONS 0 .. (at most 10)")
    private static void tenPersonsAndNoMore() {
        NamesInBags x = new NamesInBags();
        for (int p = 0; p < 10; p++) {
            due("person", x.person(0), p);
        }
        stays("the eleventh", () -> packed(10), y -> y.person(0), -1);
    }

    @Says(at = "Terms", words = "each of a HOUSE 0 .. 5")
    private static void sixHouses() {
        NamesInBags x = new NamesInBags();
        due("house 0", x.person(0), 0);
        due("house 5", x.person(5), 1);
        due("house 6", x.person(6), -1);
        due("house -1", x.person(-1), -1);
    }

    @Says(at = "Terms", words = "in DEBT up to a DAY (ahead of it; 0: never)")
    private static void debtEndsAheadOfItsDay() {
        due("the day ahead", barsOn(99, "dt", x -> x.debt(0, 100)), 0);
        due("the day itself", barsOn(100, "dt", x -> x.debt(0, 100)), -2);
        due("up to 1, on 0", barsOn(0, "dt", x -> x.debt(0, 1)), 0);
        due("up to 0, on 0", barsOn(0, "dt", x -> x.debt(0, 0)), -2);
        due("at first, on 0", barsOn(0, "dt", x -> 0), -2);
        due("up to 999, on 998", barsOn(998, "dt", x -> x.debt(0, 999)), 0);
        due("up to 999, on 999", barsOn(999, "dt", x -> x.debt(0, 999)), -2);
    }

    private static Call away(int from, int to) {
        return x -> x.away(0, from, to) ? 1 : 0;
    }

    @Says(at = "Terms", words = "AWAY from a DAY to another one (both in; at first never)")
    private static void awayWithBothDays() {
        due("the day ahead", barsOn(99, "wt", away(100, 200)), -2);
        due("the first day", barsOn(100, "wt", away(100, 200)), 0);
        due("the last day", barsOn(200, "wt", away(100, 200)), 0);
        due("the day behind", barsOn(201, "wt", away(100, 200)), -2);
        due("one day", barsOn(100, "wt", away(100, 100)), 0);
        due("day 0", barsOn(0, "wt", away(0, 0)), 0);
        due("day 1", barsOn(1, "wt", away(0, 0)), -2);
        due("day 999", barsOn(999, "wt", away(999, 999)), 0);
        due("day 998", barsOn(998, "wt", away(999, 999)), -2);
    }

    @Says(at = "Terms", words = "AWAY from a DAY to another one (both in; at first never)")
    private static void atFirstNeverAway() {
        for (int day : new int[] {0, 1, 500, 999}) {
            due("on " + day, barsOn(day, "wt", x -> 0), -2);
        }
    }

    private static final Call[] ASKING = {x -> x.chance(0, 1), x -> x.each(1), x -> x.ever(0), x -> x.empty(1),
        x -> x.vain(1), x -> x.house(0, 1), x -> x.ways(1), x -> x.sure(1, 0), x -> x.sure(1, 1), x -> x.sit(1, 1),
        x -> x.known(), x -> x.best(0, 3, 0, 1, 0), x -> x.best(1, 3, 0, 1, 1), x -> x.never(0, 3, 0, 1),
        x -> x.never(1, 5, 0, 1), x -> x.even(0, 3, 7, 1), x -> x.even(1, 3, 7, 1), x -> x.fair(7, 1),
        x -> x.war(0, 1), x -> x.war(3, 1), x -> x.old(0, 3), x -> x.old(1, 3), x -> x.seldom(), x -> x.bars(0),
        x -> x.judge(0, 1)};

    private static List<Long> answered(NamesInBags x, Call c) {
        List<Long> all = new ArrayList<>();
        all.add(c.on(x));
        tellRow(all, x);
        return all;
    }

    /** Two DRAWINGS from BAG 0, both BAGS RENEWED. */
    private static NamesInBags ruledBy(String rule, String beside) {
        NamesInBags x = packed(4);
        x.pack(1, 6);
        x.renew(0, true);
        x.renew(1, true);
        x.drawing(0, 0, 1);
        x.drawing(0, 0, 2);
        rule(x, rule);
        other(x, 1, beside);
        x.list(1);
        return x;
    }

    @Says(at = "Terms", words = "AWAY from a DAY to another one (both in; at first never)")
    private static void aLineBarsNobodyWhoIsNot() {
        for (int i = 0; i < ASKING.length; i++) {
            if (i != 19) {
                alike("call " + i, answered(ruledBy("wt", "wl"), ASKING[i]), answered(ruledBy("", ""), ASKING[i]));
            }
        }
        NamesInBags war = ruledBy("wt", "");
        due("but in war", war.war(15, 1), 0);
        // All four are torn each time: by 4, by 3, by 2, by 1, cut.
        row(war, 4 * (3 * (2 * (WHOLE / 4 / 3) / 2)), 0);
    }

    /** PERSON 0 alone is in the BAG, and sure to sit. */
    private static NamesInBags aloneBy(String rule, String beside) {
        NamesInBags x = packed(2);
        x.pack(0, 1);
        x.drawing(0, 0, 1);
        rule(x, rule);
        other(x, 1, beside);
        x.list(1);
        return x;
    }

    @Says(at = "Terms", words = "AWAY from a DAY to another one (both in; at first never)")
    private static void oneAloneWhoIsNotAway() {
        Call[] all = {x -> x.chance(0, 0), x -> x.each(0), x -> x.ever(0), x -> x.empty(0), x -> x.vain(0),
            x -> x.house(0, 0), x -> x.ways(0), x -> x.sure(0, 0), x -> x.sure(0, 1), x -> x.sit(0, 1), x -> x.known(),
            x -> x.best(0, 0, 0, 0, 0), x -> x.never(0, 0, 1, 0), x -> x.even(0, 0, 3, 0), x -> x.fair(3, 0),
            x -> x.war(0, 0), x -> x.old(0, 0), x -> x.seldom(), x -> x.bars(0), x -> x.judge(0, 1), x -> x.run()};
        for (int i = 0; i < all.length; i++) {
            alike("call " + i, answered(aloneBy("wt", ""), all[i]), answered(aloneBy("", ""), all[i]));
            alike("call " + i, answered(aloneBy("", "wt"), all[i]), answered(aloneBy("", ""), all[i]));
        }
        NamesInBags x = aloneBy("wt", "wt");
        due("fair(3, 0)", x.fair(3, 0), 3);
        row(x, WHOLE);
        due("known()", x.known(), 0);
        row(x, 1);
    }

    @Says(at = "Promise 34", words = "Of THE RULE (NONE) and the other RULES that were told (0 .. 2)")
    private static void fairByEachRuleItself() {
        for (int i = 0; i < 3; i++) {
            NamesInBags x = packed(2);
            x.pack(0, 1);
            x.away(0, 0, 0);
            x.drawing(0, 0, 1);
            other(x, i, "wt");
            due("by the other 0 is barred, as 1 who is not in it", x.fair(3, 0), i);
            row(x, 0);
            x.away(0, 1, 0);
            due("but not if it is not away", x.fair(3, 0), 3);
            row(x, WHOLE);
        }
    }

    /** Two RULES, two BAGS RENEWED, packed not alike. */
    private static NamesInBags mixed() {
        NamesInBags x = town(0, 0, 1, 2);
        x.pack(0, 3);
        x.pack(1, 12);
        x.renew(0, true);
        x.renew(1, true);
        x.debt(0, 5);
        x.away(2, 0, 4);
        x.drawing(0, 0, 2);
        x.drawing(4, 1, 2);
        x.drawing(5, 0, 2);
        x.drawing(9, 1, 2);
        rule(x, "dt;wb;kl");
        other(x, 0, "wt;dl");
        other(x, 2, "s2t");
        x.list(2);
        return x;
    }

    @Says(at = "Terms", words = "CHANCES, in parts of 1000000000000, of DRAWINGS from the next one on")
    private static void noAnswerHangsOnWhatWasAsked() {
        for (int i = 0; i < ASKING.length; i++) {
            List<Long> alone = answered(mixed(), ASKING[i]);
            for (int k = 0; k < ASKING.length; k++) {
                NamesInBags x = mixed();
                x.each(3);
                ASKING[k].on(x);
                List<Long> behind = answered(x, ASKING[i]);
                boolean noRow = i == 6 || i == 7 || i == 8 || i == 23 || i == 24;
                alike(i + " behind " + k, noRow ? behind.subList(0, 1) : behind, noRow ? alone.subList(0, 1) : alone);
            }
        }
    }

    @Says(at = "Terms", words = "DEAD from a DAY on (at first never)")
    private static void deadFromItsDayOn() {
        due("the day ahead", barsOn(99, "", x -> x.dies(0, 100)), -2);
        due("the day itself", barsOn(100, "", x -> x.dies(0, 100)), -3);
        due("later", barsOn(999, "", x -> x.dies(0, 100)), -3);
        due("from 0", barsOn(0, "", x -> x.dies(0, 0)), -3);
        due("from 999, on 998", barsOn(998, "", x -> x.dies(0, 999)), -2);
        due("from 999, on 999", barsOn(999, "", x -> x.dies(0, 999)), -3);
        due("at first, on 0", barsOn(0, "", x -> 0), -2);
        due("at first, on 999", barsOn(999, "", x -> 0), -2);
    }

    @Says(at = "Terms", words = "DAYS 0 .. 999.")
    private static void daysHaveBounds() {
        NamesInBags x = packed(1);
        due("debt 0", x.debt(0, 0), 0);
        due("debt 999", x.debt(0, 999), 0);
        due("debt -1", x.debt(0, -1), -1);
        due("debt 1000", x.debt(0, 1000), -1);
        due("away 0, 999", x.away(0, 0, 999), true);
        due("away 999, 0", x.away(0, 999, 0), true);
        due("away -1, 0", x.away(0, -1, 0), false);
        due("away 0, -1", x.away(0, 0, -1), false);
        due("away 1000, 0", x.away(0, 1000, 0), false);
        due("away 0, 1000", x.away(0, 0, 1000), false);
        due("dies 0", x.dies(0, 0), 1000);
        due("dies 999", x.dies(0, 999), 0);
        due("dies -1", x.dies(0, -1), -1);
        due("drawing -1", x.drawing(-1, 0, 1), -1);
        due("drawing 0", x.drawing(0, 0, 1), 0);
        due("drawing 1000", x.drawing(1000, 0, 1), -1);
        due("drawing 999", x.drawing(999, 0, 1), 1);
    }

    @Says(at = "Terms", words = "BAGS 0, 1")
    private static void twoBags() {
        NamesInBags x = packed(1);
        for (int bag : new int[] {0, 1}) {
            due("pack", x.pack(bag, 1) >= 0, true);
            due("renew", x.renew(bag, false), true);
            due("drawing", x.drawing(0, bag, 1), bag);
            due("bag", x.bag(bag, 0), 1);
        }
        for (int bag : new int[] {-1, 2}) {
            due("pack", x.pack(bag, 1), -1);
            due("renew", x.renew(bag, false), false);
            due("drawing", x.drawing(0, bag, 1), -1);
            due("bag", x.bag(bag, 0), -1);
        }
    }

    @Says(at = "Terms", words = "each PACKED with PERSONS (bits): one slip of each")
    private static void oneSlipOfEachInEachBag() {
        NamesInBags x = packed(2);
        x.pack(1, 3);
        x.drawing(0, 0, 2);
        x.drawing(0, 1, 2);
        due("the same slip twice", x.judge(0x00, 2), 1);
        due("hold", x.hold(0x10, 2), true);
        due("the slips of bag 1 are there still", x.hold(0x01, 2), true);
    }

    @Says(at = "Terms", words = "a BAG may be RENEWED or not (at first not)")
    private static void atFirstNotRenewed() {
        NamesInBags x = packed(1);
        x.pack(1, 1);
        for (int d = 0; d < 4; d++) {
            x.drawing(0, d % 2, 1);
        }
        due("bag 0", x.run(), 1);
        due("bag 1", x.run(), 1);
        due("bag 0 again", x.run(), 0);
        due("bag 1 again", x.run(), 0);
    }

    @Says(at = "Terms", words = "DRAWINGS 0 .. (at most 6), one behind the other")
    private static void sixDrawingsAndNoMore() {
        NamesInBags x = packed(6);
        for (int d = 0; d < 6; d++) {
            due("drawing", x.drawing(0, 0, 1), d);
        }
        due("the seventh", x.drawing(0, 0, 1), -1);
        for (int d = 0; d < 6; d++) {
            due("done", x.count(2), d);
            due("run()", x.run(), 1);
            due("it sat in", x.sat((int) numberAt(x, 0)), d);
        }
        due("none is left", x.run(), -1);
        due("done ones leave no room", x.drawing(999, 0, 1), -1);
    }

    @Says(at = "Terms", words = "each on a DAY (not ahead of the DAY of the one before)")
    private static void daysDoNotGoBack() {
        NamesInBags x = packed(1);
        due("any first day", x.drawing(500, 0, 1), 0);
        due("one day ahead", x.drawing(499, 1, 1), -1);
        due("day 0", x.drawing(0, 0, 1), -1);
        due("the same day", x.drawing(500, 1, 1), 1);
        due("one day behind", x.drawing(501, 0, 1), 2);
        due("the one before counts, not the first", x.drawing(500, 0, 1), -1);
        x.run();
        due("a done one counts too", x.drawing(500, 0, 1), -1);
    }

    @Says(at = "Terms", words = "from a BAG, for 1 .. 3 SEATS")
    private static void oneToThreeSeats() {
        for (int seats = 1; seats <= 3; seats++) {
            NamesInBags x = packed(4);
            due("drawing", x.drawing(0, 0, seats), 0);
            due("so many sit", x.run(), seats);
            due("the others' slips are left", Integer.bitCount(x.bag(0, 0)), 4 - seats);
        }
        for (int seats : new int[] {0, 4, -1, MIN, MAX}) {
            due("seats " + seats, packed(4).drawing(0, 0, seats), -1);
        }
    }

    // ---- Terms 1: the rule

    @Says(at = "Terms", words = "THE RULE is a text of at most 20 signs")
    private static void twentySignsAtMost() {
        NamesInBags x = new NamesInBags();
        due("20", rule(x, "kb;dt;wl;kb;dt;wl;kb"), 7);
        due("21", rule(x, "kb;dt;wl;kb;dt;wl;s1b"), -21);
        due("20 with a span", rule(x, "s1b;s2t;s3l;kb;kb;kb"), 6);
        due("19", rule(x, "s1b;s2t;s3l;s4b;s5t"), 5);
        due("23", rule(x, "s1b;s2t;s3l;s4b;s5t;s6l"), -21);
    }

    @Says(at = "Terms", words = "LINES with ; between, or none at all (an empty text)")
    private static void noLinesAtAll() {
        NamesInBags x = packed(2);
        x.debt(0, 999);
        x.drawing(0, 0, 1);
        due("one", rule(x, "dt"), 1);
        due("barred", x.bars(0), 0);
        due("none", rule(x, ""), 0);
        due("not barred", x.bars(0), -2);
    }

    @Says(at = "Terms", words = "LINES with ; between, or none at all (an empty text)")
    private static void signsBetweenLinesAlone() {
        NamesInBags x = new NamesInBags();
        due("ahead", rule(x, ";kb"), -1);
        due("behind", rule(x, "kb;"), -4);
        due("twice", rule(x, "kb;;kb"), -4);
        due("none", rule(x, "kbkb"), -3);
        due("alone", rule(x, ";"), -1);
    }

    @Says(at = "Terms", words = "s and a digit 1 .. 6 (SAT)")
    private static void digitsOneToSix() {
        NamesInBags x = new NamesInBags();
        for (char c = '1'; c <= '6'; c++) {
            due("s" + c, rule(x, "s" + c + "b"), 1);
        }
        for (char c : new char[] {'0', '7', '9', '/', ':', 'b'}) {
            due("s" + c, rule(x, "s" + c + "b"), -2);
        }
        due("two digits", rule(x, "s12b"), -3);
        for (String kind : new String[] {"k", "d", "w"}) {
            due(kind + " has none", rule(x, kind + "1b"), -2);
        }
    }

    @Says(at = "Terms", words = "then what becomes of the slip: b (BACK), t (TORN), l (LAID ASIDE)")
    private static void threeFates() {
        for (int c = 0; c < 256; c++) {
            NamesInBags x = new NamesInBags();
            x.sign('k' << 24 | c << 16);
            x.end(2);
            due("k and sign " + c, x.rule(), c == 'b' || c == 't' || c == 'l' ? 1 : -2);
        }
    }

    @Says(at = "Terms", words = "k (KIN), s and a digit 1 .. 6 (SAT), d (DEBT), w (AWAY)")
    private static void fourKinds() {
        for (int c = 0; c < 256; c++) {
            NamesInBags x = new NamesInBags();
            x.sign(c << 24 | 'b' << 16);
            x.end(2);
            int want = c == 'k' || c == 'd' || c == 'w' ? 1 : c == 's' ? -2 : -1;
            due("sign " + c + " and b", x.rule(), want);
        }
    }

    @Says(at = "Terms", words = "At first empty.")
    private static void atFirstNoRule() {
        NamesInBags x = packed(2);
        x.debt(0, 999);
        x.away(0, 0, 999);
        x.drawing(0, 0, 1);
        due("lines", x.count(3), 0);
        due("not barred", x.bars(0), -2);
        due("it sits", x.hold(0, 1), true);
    }

    @Says(at = "Terms", words = "k: if one of its HOUSE sits in it already")
    private static void kinOfThoseWhoSitInIt() {
        NamesInBags x = town(5, 5, 5, 4);
        x.debt(0, 1);
        x.drawing(0, 0, 2);
        x.drawing(0, 0, 1);
        rule(x, "dt;kt");
        due("one who was torn does not sit", x.judge(0x310, 3), 3);
        due("1 sits, so 2 does not, but 3", x.judge(0x3210, 4), 4);
        due("3 sits, 1 sits: all seats are filled", x.judge(0x213, 3), 2);
        due("hold", x.hold(0x31, 2), true);
        due("kin sat in the one before: no matter", x.bars(2), -2);
        due("it sits", x.hold(0x20, 2), true);
    }

    @Says(at = "Terms", words = "s: if it sat in one of the so many DRAWINGS ahead of it")
    private static void satInOneOfSoMany() {
        for (int n = 1; n <= 6; n++) {
            NamesInBags x = packed(2);
            x.drawing(0, 0, 1);
            for (int d = 1; d < 6; d++) {
                x.drawing(0, 1, 1);
            }
            rule(x, "s" + n + "b");
            due("it sits", x.hold(0, 1), true);
            for (int d = 1; d < 6; d++) {
                due("s" + n + ", sat in 0, drawing " + d, x.bars(0), d <= n ? 0 : -2);
                due("one who never sat", x.bars(1), -2);
                x.run();
            }
        }
    }

    @Says(at = "Terms", words = "d: if the DAY is ahead of that up to which it is in DEBT")
    private static void debtBarsItsOwner() {
        NamesInBags x = packed(2);
        x.debt(0, 10);
        x.drawing(9, 0, 1);
        x.drawing(10, 0, 1);
        rule(x, "db");
        due("on 9", x.bars(0), 0);
        due("another one", x.bars(1), -2);
        due("hold", x.hold(0x10, 2), true);
        due("on 10", x.bars(0), -2);
        due("hold", x.hold(0, 1), true);
    }

    @Says(at = "Terms", words = "w: if it is AWAY.")
    private static void awayBarsWhoIsAway() {
        NamesInBags x = packed(2);
        x.away(0, 9, 9);
        x.drawing(9, 0, 1);
        x.drawing(10, 0, 1);
        rule(x, "wb");
        due("on 9", x.bars(0), 0);
        due("another one", x.bars(1), -2);
        due("hold", x.hold(0x10, 2), true);
        due("on 10", x.bars(0), -2);
        due("hold", x.hold(0, 1), true);
    }

    // ---- Terms 1: a drawing

    private static final String RENEWED =
        "if its BAG has no slip, and it is RENEWED, it is as it is PACKED (and none is LAID ASIDE from it)";

    @Says(at = "Terms", words = RENEWED)
    private static void emptyAndRenewed() {
        NamesInBags x = packed(2);
        x.renew(0, true);
        x.drawing(0, 0, 2);
        x.drawing(0, 0, 1);
        due("hold", x.hold(0x10, 2), true);
        due("it is empty till then", x.bag(0, 0), 0);
        due("as packed", x.hold(1, 1), true);
        due("the other slip", x.bag(0, 0), 1);
    }

    @Says(at = "Terms", words = RENEWED)
    private static void eachBagAsItIsPackedItself() {
        for (int bag = 0; bag < 2; bag++) {
            NamesInBags x = packed(4);
            x.pack(bag, 3);
            x.pack(1 - bag, 12);
            x.renew(bag, true);
            x.debt(0, 9);
            x.drawing(0, bag, 2);
            x.drawing(9, bag, 2);
            rule(x, "dl");
            due("foreseen", x.sure(1, 0), 3);
            due("foreseen by a packing", x.best(bag, 0, 0, 1, 0), 0);
            row(x, 3, WHOLE);
            due("in the other bag", x.best(1 - bag, 12, 0, 1, 0), 0);
            row(x, 0, WHOLE);
            due("0 aside, 1 sits", x.hold(0x10, 2), true);
            due("aside", x.bag(bag, 1), 1);
            due("2 is not in it", x.judge(2, 1), 0);
            due("known()", x.known(), 1);
            row(x, 3);
            x.keep(0);
            due("0 and 1", x.run(), 2);
            due("none aside", x.bag(bag, 1), 0);
            x.again(0);
            due("0 and 1", x.hold(0x01, 2), true);
            due("the other bag", x.bag(1 - bag, 0), 12);
        }
    }

    @Says(at = "Terms", words = RENEWED)
    private static void emptyAndNotRenewed() {
        NamesInBags x = packed(2);
        x.renew(1, true);
        x.drawing(0, 0, 2);
        x.drawing(0, 0, 1);
        due("hold", x.hold(0x10, 2), true);
        due("nothing to draw", x.judge(0, 1), 0);
        due("none sits", x.run(), 0);
    }

    @Says(at = "Terms", words = RENEWED)
    private static void oneSlipLeftIsNotEmpty() {
        NamesInBags x = packed(2);
        x.renew(0, true);
        x.drawing(0, 0, 1);
        x.drawing(0, 0, 2);
        due("hold", x.hold(0, 1), true);
        due("0 is not there", x.judge(0, 1), 0);
        due("1 alone", x.hold(1, 1), true);
    }

    @Says(at = "Terms", words = RENEWED)
    private static void renewedLeavesNoneAside() {
        NamesInBags x = packed(2);
        x.renew(0, true);
        x.debt(0, 999);
        x.drawing(0, 0, 2);
        x.drawing(0, 0, 1);
        rule(x, "dl");
        due("hold", x.hold(0x10, 2), true);
        due("aside", x.bag(0, 1), 1);
        due("0 is barred still, but as packed it is there: aside again", x.judge(0x10, 2), 2);
        due("1 first", x.hold(1, 1), true);
        due("none aside", x.bag(0, 1), 0);
        due("0 is in it", x.bag(0, 0), 1);
    }

    @Says(at = "Terms", words = RENEWED)
    private static void renewedAsItIsPackedNow() {
        NamesInBags x = packed(3);
        x.pack(0, 1);
        x.renew(0, true);
        for (int d = 0; d < 4; d++) {
            x.drawing(0, 0, d == 1 ? 2 : 1);
        }
        due("hold", x.hold(0, 1), true);
        x.pack(0, 6);
        due("both", x.hold(0x21, 2), true);
        due("renewed with 1, 2, not with 0", x.judge(0, 1), 0);
        due("renewed with 1, 2", x.hold(2, 1), true);
        due("one is left", x.bag(0, 0), 2);
        x.pack(0, 0);
        due("renewed with none", x.run(), 0);
    }

    @Says(at = "Terms", words = RENEWED)
    private static void onlyItsOwnBagIsRenewed() {
        NamesInBags x = packed(2);
        x.pack(1, 1);
        x.renew(0, true);
        x.renew(1, true);
        x.drawing(0, 1, 1);
        x.drawing(0, 0, 1);
        due("hold", x.hold(0, 1), true);
        due("hold", x.hold(1, 1), true);
        due("bag 1 stays empty till its drawing", x.bag(1, 0), 0);
    }

    private static final String ASIDE =
        "else those who are LAID ASIDE from it and whom no LINE bars (none sits yet) are in it again";

    @Says(at = "Terms", words = ASIDE)
    private static void asideForKinComesBack() {
        NamesInBags x = town(0, 0, 1);
        x.drawing(0, 0, 2);
        x.drawing(0, 0, 1);
        rule(x, "kl");
        due("hold", x.hold(0x210, 3), true);
        due("aside", x.bag(0, 1), 2);
        due("the bag is empty till then", x.bag(0, 0), 0);
        due("none sits yet", x.hold(1, 1), true);
        due("none aside", x.bag(0, 1), 0);
    }

    @Says(at = "Terms", words = ASIDE)
    private static void asideForDebtTillItsDay() {
        NamesInBags x = packed(3);
        x.debt(0, 20);
        x.drawing(10, 0, 1);
        x.drawing(19, 0, 1);
        x.drawing(20, 0, 1);
        rule(x, "dl");
        due("hold", x.hold(0x10, 2), true);
        due("on 19 it is aside still", x.judge(0, 1), 0);
        due("hold", x.hold(2, 1), true);
        due("aside", x.bag(0, 1), 1);
        due("on 20 it is there", x.hold(0, 1), true);
        due("aside", x.bag(0, 1), 0);
    }

    @Says(at = "Terms", words = ASIDE)
    private static void anotherLineKeepsItAside() {
        NamesInBags x = packed(3);
        x.debt(0, 20);
        x.away(0, 20, 29);
        x.drawing(10, 0, 1);
        x.drawing(20, 0, 1);
        x.drawing(30, 0, 1);
        rule(x, "dl;wt");
        due("hold", x.hold(0x10, 2), true);
        due("no debt, but away", x.judge(0, 1), 0);
        due("hold", x.hold(2, 1), true);
        due("aside still, not torn", x.bag(0, 1), 1);
        due("in it again", x.hold(0, 1), true);
    }

    @Says(at = "Terms", words = ASIDE)
    private static void asideFromTheOtherBagStays() {
        NamesInBags x = packed(2);
        x.pack(1, 3);
        x.debt(0, 5);
        x.drawing(0, 1, 1);
        x.drawing(5, 0, 1);
        x.drawing(5, 1, 1);
        rule(x, "dl");
        due("hold", x.hold(0x10, 2), true);
        due("aside from 1", x.bag(1, 1), 1);
        due("hold", x.hold(1, 1), true);
        due("aside from 1 still", x.bag(1, 1), 1);
        due("its own drawing", x.hold(0, 1), true);
        due("no more", x.bag(1, 1), 0);
    }

    @Says(at = "Terms", words = ASIDE)
    private static void renewedBagWithASlip() {
        NamesInBags x = packed(3);
        x.renew(0, true);
        x.debt(0, 5);
        x.drawing(0, 0, 1);
        x.drawing(5, 0, 3);
        rule(x, "dl");
        due("hold", x.hold(0x10, 2), true);
        due("2 is in it, 0 comes back, 1 does not", x.judge(0x102, 3), 2);
        due("these two", x.hold(0x02, 2), true);
    }

    @Says(at = "Terms", words = ASIDE)
    private static void deadOneAsideComesBackToBeTorn() {
        NamesInBags x = packed(2);
        x.debt(0, 5);
        x.dies(0, 5);
        x.drawing(0, 0, 1);
        x.drawing(5, 0, 1);
        rule(x, "dl");
        due("hold", x.hold(0x10, 2), true);
        due("aside", x.bag(0, 1), 1);
        due("drawn, and torn", x.hold(0, 1), true);
        due("gone", x.bag(0, 0) | x.bag(0, 1), 0);
        due("it never sat", x.sat(0), -2);
    }

    @Says(at = "Terms", words = "slips are drawn one by one till all SEATS are filled, or none is left")
    private static void tillSeatsAreFilledOrNoneIsLeft() {
        NamesInBags x = packed(3);
        x.drawing(0, 0, 2);
        x.drawing(0, 0, 2);
        due("two seats", x.run(), 2);
        due("two slips drawn", x.count(5), 4);
        due("one is left", Integer.bitCount(x.bag(0, 0)), 1);
        due("none is left", x.run(), 1);
        due("one slip drawn", x.count(5), 2);
        due("empty", x.bag(0, 0), 0);
    }

    @Says(at = "Terms", words = "slips are drawn one by one till all SEATS are filled, or none is left")
    private static void allTenSlipsAreDrawn() {
        NamesInBags x = packed(10);
        for (int p = 0; p < 9; p++) {
            x.debt(p, 5);
        }
        x.drawing(0, 0, 2);
        x.drawing(5, 0, 1);
        rule(x, "db");
        due("9 is sure, a seat is not", x.ways(0), 1);
        due("9 is sure", x.sure(0, 0), 512);
        due("empty(0)", x.empty(0), 0);
        due("none sits never", numberAt(x, 1), 0);
        due("one sits", numberAt(x, 2) > WHOLE - 10000, true);
        due("two sit never", numberAt(x, 3), 0);
        due("vain(0)", x.vain(0), 0);
        due("ten draws", numberAt(x, 0) > 10 * WHOLE - 100000 && numberAt(x, 0) <= 10 * WHOLE, true);
        due("nine in vain", numberAt(x, 1) > 9 * WHOLE - 100000 && numberAt(x, 1) <= 9 * WHOLE, true);
        due("nine are left", x.sure(1, 1), 511);
        due("run()", x.run(), 1);
        due("ten drawn", x.count(5), 11);
        due("nine are left", x.bag(0, 0), 511);
    }

    @Says(at = "Terms", words = "of one who is DEAD it is TORN")
    private static void deadIsTornWhateverLinesSay() {
        for (String rule : new String[] {"", "db", "dl", "dt", "wb;dl"}) {
            NamesInBags x = packed(2);
            x.debt(0, 5);
            x.away(0, 0, 5);
            x.dies(0, 0);
            x.drawing(0, 0, 2);
            rule(x, rule);
            due("hold by " + rule, x.hold(0x10, 2), true);
            due("not in it by " + rule, x.bag(0, 0), 0);
            due("not aside by " + rule, x.bag(0, 1), 0);
            due("never sat by " + rule, x.sat(0), -2);
        }
    }

    @Says(at = "Terms", words = "else the first LINE that bars tells")
    private static void firstLineThatBars() {
        String[] rules = {"db;wt;kl", "dt;wb", "dl;wt", "wb;dt", "wt;dl", "wl;db", "kb;wl;dt", "s6t;dl;wb"};
        char[] fates = {'b', 't', 'l', 'b', 't', 'l', 'l', 'l'};
        for (int i = 0; i < rules.length; i++) {
            NamesInBags x = packed(2);
            x.debt(0, 5);
            x.away(0, 0, 5);
            x.drawing(0, 0, 1);
            rule(x, rules[i]);
            due("hold by " + rules[i], x.hold(0x10, 2), true);
            due("in it by " + rules[i], x.bag(0, 0), fates[i] == 'b' ? 1 : 0);
            due("aside by " + rules[i], x.bag(0, 1), fates[i] == 'l' ? 1 : 0);
        }
    }

    @Says(at = "Terms", words = "BACK: it is put by, and in the BAG again as the DRAWING ends")
    private static void backAsItEnds() {
        NamesInBags x = packed(3);
        x.debt(0, 5);
        x.drawing(0, 0, 1);
        x.drawing(0, 0, 3);
        rule(x, "db");
        due("not to be drawn again", x.judge(0x00, 2), 1);
        due("hold", x.hold(0x10, 2), true);
        due("in it again", x.bag(0, 0), 5);
        due("ends as none is left", x.hold(0x20, 2), true);
        due("in it again", x.bag(0, 0), 1);
        due("not aside", x.bag(0, 1), 0);
    }

    @Says(at = "Terms", words = "BACK: it is put by, and in the BAG again as the DRAWING ends")
    private static void backAsItIsRun() {
        NamesInBags x = town(0, 0, 0);
        x.drawing(0, 0, 2);
        x.drawing(0, 0, 2);
        rule(x, "kb");
        due("one of the house", x.run(), 1);
        due("all slips were drawn", x.count(5), 4);
        due("two are back", x.bag(0, 0), 7 & ~(1 << numberAt(x, 0)));
        due("one of two", x.run(), 1);
        due("one is back", Integer.bitCount(x.bag(0, 0)), 1);
    }

    @Says(at = "Terms", words = "TORN: it is gone; LAID ASIDE.")
    private static void tornIsGoneAsideIsNot() {
        for (String fate : new String[] {"t", "l"}) {
            NamesInBags x = packed(2);
            x.debt(0, 5);
            x.drawing(0, 0, 1);
            x.drawing(5, 0, 1);
            rule(x, "d" + fate);
            due("hold", x.hold(0x10, 2), true);
            due("aside", x.bag(0, 1), fate.equals("l") ? 1 : 0);
            due("the next one", x.run(), fate.equals("l") ? 1 : 0);
        }
    }

    @Says(at = "Terms", words = "the PERSON sits (its slip is gone; from then on it sat last in this DRAWING)")
    private static void satLastInThisOne() {
        NamesInBags x = packed(1);
        x.pack(1, 1);
        for (int d = 0; d < 6; d++) {
            x.drawing(0, d == 5 ? 1 : 0, 1);
        }
        due("at first", x.sat(0), -2);
        due("hold", x.hold(0, 1), true);
        due("in 0", x.sat(0), 0);
        due("its slip is gone", x.bag(0, 0) | x.bag(0, 1), 0);
        for (int d = 1; d < 5; d++) {
            due("none", x.run(), 0);
            due("in 0 still", x.sat(0), 0);
        }
        due("hold", x.hold(0, 1), true);
        due("in 5", x.sat(0), 5);
    }

    @Says(at = "Terms", words = "At first BAGS are as PACKED.")
    private static void atFirstAsPacked() {
        NamesInBags x = packed(3);
        x.pack(1, 5);
        due("bag 0", x.bag(0, 0), 7);
        due("bag 1", x.bag(1, 0), 5);
        due("aside", x.bag(0, 1) | x.bag(1, 1), 0);
        due("next", x.count(2), 0);
    }

    // ---- Terms 2: draws

    private static long nextOf(long r) {
        return (r * 1103515245L + 12345L) & 0xffffffffL;
    }

    @Says(at = "Terms", words = "R = R times 1103515245 + 12345 (as ints; R at first 1)")
    private static void firstR() {
        NamesInBags x = packed(10);
        x.drawing(0, 0, 1);
        due("run()", x.run(), 1);
        due("1103515245 + 12345", x.seed(0), 1103527590);
        // 1103527590 by 65536 is 16838, of ten the ninth one.
        row(x, 8, 8);
    }

    @Says(at = "Terms", words = "R = R times 1103515245 + 12345 (as ints; R at first 1)")
    private static void wrapsAsInts() {
        for (int r : new int[] {0, 1, 2, 3, -1, MAX, MIN, MAX - 1, MIN + 1, 1103515245, 65536, -65536}) {
            NamesInBags x = packed(10);
            x.drawing(0, 0, 3);
            x.seed(r);
            due("run()", x.run(), 3);
            long want = nextOf(nextOf(nextOf(r)));
            due("R behind three draws from " + r, x.seed(0), (int) want);
        }
    }

    @Says(at = "Terms", words = "R = R times 1103515245 + 12345 (as ints; R at first 1)")
    private static void oneSlipTakesADrawToo() {
        NamesInBags x = packed(1);
        x.drawing(0, 0, 1);
        x.drawing(0, 0, 1);
        x.run();
        due("a draw of 1", x.seed(7), 1103527590);
        due("none to draw", x.run(), 0);
        due("R stays", x.seed(0), 7);
    }

    @Says(at = "Terms", words = "(R without sign, by 65536) % n")
    private static void withoutSign() {
        int below = 0;
        for (int r = 0; r < 60; r++) {
            for (int n = 1; n <= 10; n++) {
                NamesInBags x = packed(n);
                x.drawing(0, 0, 1);
                x.seed(r * 77777);
                x.run();
                long next = nextOf(r * 77777);
                due("of " + n + " from " + r * 77777, numberAt(x, 0), next / 65536 % n);
                below += next > MAX ? 1 : 0;
            }
        }
        due("some are below 0 as ints", below > 100, true);
    }

    @Says(at = "Terms", words = "slips stand by PERSONS, the least first")
    private static void leastFirst() {
        for (int r = 0; r < 30; r++) {
            NamesInBags x = packed(10);
            x.pack(0, 1 << 3 | 1 << 7 | 1 << 9);
            x.drawing(0, 0, 1);
            x.seed(r * 991);
            x.run();
            int[] slips = {3, 7, 9};
            due("of 3, 7, 9", numberAt(x, 0), slips[(int) (nextOf(r * 991) / 65536 % 3)]);
        }
    }

    // ---- Terms 2: chances

    @Says(at = "Terms", words = "that one's CHANCE by how many slips there were to draw from (cut)")
    private static void sharesAreCut() {
        long[] want = {WHOLE, 500000000000L, 333333333333L, 250000000000L, 200000000000L, 166666666666L, 142857142857L,
            125000000000L, 111111111111L, 100000000000L};
        for (int n = 1; n <= 10; n++) {
            NamesInBags x = packed(n);
            x.drawing(0, 0, 1);
            due("chance", x.chance(n - 1, 0), 0);
            row(x, want[n - 1]);
        }
    }

    @Says(at = "Terms", words = "each that is alike once, with the sum of what comes to it")
    private static void alikeOnesAreSummedAheadOfTheCut() {
        NamesInBags x = packed(4);
        x.drawing(0, 0, 3);
        due("sit(0, 7)", x.sit(0, 7), 1);
        // Two of them: twice 250000000000 / 3; that by 2, from three such.
        row(x, 3 * (2 * 83333333333L / 2));
    }

    @Says(at = "Terms", words = "Behind a draw those go on whose DRAWING is not over")
    private static void thoseThatAreOverDrawNoMore() {
        NamesInBags x = packed(4);
        x.dies(0, 0);
        x.drawing(0, 0, 1);
        due("vain(0)", x.vain(0), 0);
        // All draw once; only those who tore the slip of 0 draw again.
        row(x, WHOLE + WHOLE / 4, WHOLE / 4);
        x.dies(1, 0);
        due("vain(0)", x.vain(0), 0);
        row(x, WHOLE + 2 * (WHOLE / 4) + 2 * (WHOLE / 4 / 3), 2 * (WHOLE / 4) + 2 * (WHOLE / 4 / 3));
    }

    @Says(at = "Terms", words = "of those that are over who was put by is in the BAG again, and all that a DRAWING ends with are summed, each alike once")
    private static void endsAreSummed() {
        NamesInBags x = packed(4);
        x.debt(0, 5);
        x.drawing(0, 0, 1);
        x.drawing(5, 0, 1);
        rule(x, "db");
        due("0 put by or not is alike", x.ways(0), 3);
        due("each(0)", x.each(0), 0);
        row(x, 0, 333333333333L, 333333333333L, 333333333333L);
        // 250000000000 + 83333333333 by 3, cut once, from three such.
        due("chance(0, 1)", x.chance(0, 1), 0);
        row(x, 3 * 111111111111L);
    }

    @Says(at = "Terms", words = "so are they behind the beginning of the next DRAWING")
    private static void alikeBehindTheBeginning() {
        NamesInBags x = packed(4);
        x.debt(0, 5);
        x.drawing(0, 0, 1);
        x.drawing(5, 0, 1);
        rule(x, "dl");
        due("0 aside or not is unlike", x.ways(0), 6);
        due("chance(0, 1)", x.chance(0, 1), 0);
        row(x, 3 * 111111111111L);
        due("1 and who of three", x.ways(1), 9);
    }

    @Says(at = "Terms", words = "(One with a CHANCE of 0 goes on, too.)")
    private static void noChanceIsNotImpossible() {
        NamesInBags x = town(0, 0, 0, 0, 1, 1, 1, 2);
        x.renew(0, true);
        rule(x, "kt");
        // 7 sits each time, so the bag was renewed: all others were torn ahead of it.
        for (int d = 0; d < 6; d++) {
            x.drawing(0, 0, 3);
            x.list(1 | 1 << 4 | 1 << 7);
        }
        due("seldom()", x.seldom(), 0);
        row(x, 0);
        due("it can be", x.old(0, 0), 1);
        row(x, 255, 255);
    }

    /** 3000 unlike ones behind the third draw of DRAWING 2, all of which go on; it ends in 100 ways. */
    private static NamesInBags fullLayer() {
        NamesInBags x = town(0, 1, 2, 0, 3, 2, 1);
        x.debt(5, 21);
        x.pack(1, 119);
        rule(x, "s2t;wb;dl");
        x.drawing(0, 0, 1);
        x.drawing(10, 1, 3);
        x.drawing(20, 0, 3);
        x.seldom();
        return x;
    }

    /** 3001 unlike ones behind the second draw of DRAWING 3, all of which go on; it would end in 280 ways. */
    private static NamesInBags overfullLayer() {
        NamesInBags x = town(4, 4, 1, 3, 4, 1, 1, 4, 3);
        x.dies(0, 4);
        x.debt(3, 32);
        x.dies(7, 43);
        x.pack(0, 507);
        x.pack(1, 412);
        rule(x, "db");
        x.drawing(0, 1, 2);
        x.drawing(10, 1, 1);
        x.drawing(20, 0, 3);
        x.drawing(30, 0, 3);
        x.seldom();
        return x;
    }

    /** 3001 behind the fifth draw of DRAWING 1, of which 2085 go on; it would end in 160 ways. */
    private static NamesInBags overfullWithEnded() {
        NamesInBags x = town(2, 0, 0, 2, 2, 0, 2, 0, 1);
        x.debt(0, 47);
        x.debt(2, 30);
        x.debt(3, 2);
        x.dies(3, 38);
        x.debt(5, 44);
        rule(x, "s1b;kb;dl");
        x.drawing(0, 0, 1);
        x.drawing(10, 0, 3);
        x.seldom();
        return x;
    }

    /** DRAWING 2 ends in 3000 ways; behind no draw there are more than 1750. */
    private static NamesInBags fullEnd() {
        NamesInBags x = town(3, 2, 0, 1, 3, 1, 1);
        x.pack(1, 110);
        rule(x, "s1t");
        x.drawing(0, 0, 2);
        x.drawing(10, 1, 2);
        x.drawing(20, 0, 1);
        x.seldom();
        return x;
    }

    /** DRAWING 1 ends in 3001 ways; behind no draw there are more than 1260. */
    private static NamesInBags overfullEnd() {
        NamesInBags x = town(2, 2, 0, 0, 1, 0, 3, 4, 0, 0);
        x.debt(1, 4);
        x.dies(6, 2);
        x.debt(9, 5);
        rule(x, "db;kt");
        x.drawing(0, 0, 1);
        x.drawing(10, 0, 2);
        x.seldom();
        return x;
    }

    private static final String TOO_MANY_BEHIND =
        "If behind a draw (that DRAWING's first, second, ..) there are more than 3000 unlike ones";

    @Says(at = "Terms", words = TOO_MANY_BEHIND)
    private static void threeThousandBehindADraw() {
        due("3000 behind a draw", fullLayer().ways(2), 100);
    }

    @Says(at = "Terms", words = TOO_MANY_BEHIND)
    private static void moreThanThreeThousandBehindADraw() {
        due("up to the one before", overfullLayer().ways(2) > 0, true);
        tooMany("3001 behind a draw", EdgesTest::overfullLayer, x -> x.ways(3));
    }

    @Says(at = "Terms", words = TOO_MANY_BEHIND)
    private static void thoseThatAreOverCountToo() {
        due("up to the one before", overfullWithEnded().ways(0) > 0, true);
        tooMany("3001 behind a draw", EdgesTest::overfullWithEnded, x -> x.ways(1));
    }

    @Says(at = "Terms", words = "or a DRAWING ends in more than 3000 unlike ways, -3 is answered")
    private static void threeThousandEnds() {
        due("3000 ends", fullEnd().ways(2), 3000);
    }

    @Says(at = "Terms", words = "or a DRAWING ends in more than 3000 unlike ways, -3 is answered")
    private static void threeThousandEndsAreSummed() {
        NamesInBags x = fullEnd();
        due("each(2)", x.each(2), 0);
        long sum = 0;
        long[] each = new long[7];
        for (int p = 0; p < 7; p++) {
            each[p] = numberAt(x, p);
            sum += each[p];
        }
        due("empty(2)", x.empty(2), 0);
        due("none or one sits", numberAt(x, 0), numberAt(x, 1));
        due("one sits", numberAt(x, 2), sum);
        for (int p = 0; p < 7; p++) {
            due("chance", x.chance(p, 2), 0);
            row(x, each[p]);
            due("best with none to choose", x.best(0, 0, p, 2, p % 2), 0);
            row(x, 127, each[p]);
            due("sit", x.sit(2, 1 << p), 1);
            row(x, each[p]);
        }
        due("ever(0)", x.ever(0), 0);
        due("some chance", numberAt(x, 0) > each[0] && numberAt(x, 0) < WHOLE, true);
        due("house(1, 2)", x.house(1, 2), 0);
        row(x, each[3] + each[5] + each[6], each[3] + each[5] + each[6]);
        due("sure(2, 0)", x.sure(2, 0), 0);
        due("sure(2, 1)", x.sure(2, 1), 127);
        due("known()", x.known(), -2);
        due("never(0, 0, 0, 2)", x.never(0, 0, 0, 2), 0);
        due("never(0, 0, 5, 2)", x.never(0, 0, 5, 2), 1);
        due("even(0, 0, 4, 2)", x.even(0, 0, 4, 2), 0);
        row(x, 127, 0);
        due("war(0, 2)", x.war(0, 2), 0);
        due("alike", numberAt(x, 0), numberAt(x, 1));
        due("vain(2)", x.vain(2), 0);
    }

    @Says(at = "Terms", words = "or a DRAWING ends in more than 3000 unlike ways, -3 is answered")
    private static void moreThanThreeThousandEnds() {
        due("up to the one before", overfullEnd().ways(0), 8);
        tooMany("3001 ends", EdgesTest::overfullEnd, x -> x.ways(1));
    }

    private static final Call[] OF_DRAWING_ONE = {x -> x.chance(0, 1), x -> x.each(1), x -> x.ever(0), x -> x.empty(1),
        x -> x.vain(1), x -> x.house(0, 1), x -> x.ways(1), x -> x.sure(1, 0), x -> x.sure(1, 1), x -> x.sit(1, 7),
        x -> x.known(), x -> x.best(0, 1, 0, 1, 0), x -> x.best(0, 0, 0, 1, 1), x -> x.never(0, 1, 0, 1),
        x -> x.even(0, 1, 1, 1), x -> x.fair(1, 1), x -> x.war(1, 1)};

    @Says(at = "Terms", words = "-3 is answered (whatever else but NONE; the ROW stays)")
    private static void tooManyLeavesTheRow() {
        for (int i = 0; i < OF_DRAWING_ONE.length; i++) {
            tooMany("call " + i, EdgesTest::vast, OF_DRAWING_ONE[i]);
            tooMany("call " + i + " with too many ends", EdgesTest::overfullEnd, OF_DRAWING_ONE[i]);
        }
        tooMany("seldom()", EdgesTest::tornOnes, x -> x.seldom());
        tooMany("old(0, 1)", EdgesTest::tornOnes, x -> x.old(0, 1));
    }

    @Says(at = "Terms", words = "-3 is answered (whatever else but NONE; the ROW stays)")
    private static void refusedAheadOfTooMany() {
        Call[] all = {x -> x.chance(10, 1), x -> x.chance(0, 2), x -> x.each(2), x -> x.ever(10), x -> x.empty(2),
            x -> x.vain(2), x -> x.house(6, 1), x -> x.house(0, 2), x -> x.ways(2), x -> x.sure(1, 2), x -> x.sure(2, 0),
            x -> x.sit(1, 1024), x -> x.sit(2, 7), x -> x.best(2, 1, 0, 1, 0), x -> x.best(0, 1024, 0, 1, 0),
            x -> x.best(0, 1, 10, 1, 0), x -> x.best(0, 1, 0, 2, 0), x -> x.best(0, 1, 0, 1, 2),
            x -> x.never(0, 127, 0, 1), x -> x.never(0, 1, 6, 1), x -> x.even(0, 1, 0, 1), x -> x.even(0, 127, 1, 1),
            x -> x.fair(0, 1), x -> x.fair(1, 2), x -> x.war(1024, 1), x -> x.war(1, 2), x -> x.old(0, 127)};
        for (int i = 0; i < all.length; i++) {
            stays("call " + i, EdgesTest::vast, all[i], -1);
        }
        NamesInBags x = tornOnes();
        x.list(0);
        due("more listed than drawings", x.seldom(), -1);
        due("more listed than drawings", x.old(0, 1), -1);
    }

    @Says(at = "Terms", words = "DRAWINGS behind the one that is asked for are not gone through.")
    private static void thoseBehindAreNoMatter() {
        Call[] all = {x -> x.chance(0, 0), x -> x.each(0), x -> x.empty(0), x -> x.vain(0), x -> x.house(0, 0),
            x -> x.best(0, 1, 0, 0, 0), x -> x.even(0, 1, 1, 0), x -> x.war(1, 0)};
        for (int i = 0; i < all.length; i++) {
            due("call " + i, all[i].on(vast()), 0);
        }
        due("ways(0)", vast().ways(0), 120);
        due("sure(0, 0)", vast().sure(0, 0), 0);
        due("sure(0, 1)", vast().sure(0, 1), 1023);
        due("sit(0, 7)", vast().sit(0, 7), 1);
        due("never(0, 1, 1, 0): 1 and 7 stay", vast().never(0, 1, 1, 0), 0);
        NamesInBags fair = vast();
        other(fair, 0, "kb");
        due("fair(1, 0)", fair.fair(1, 0) >= 0, true);
        NamesInBags listed = vast();
        listed.list(7);
        due("seldom()", listed.seldom(), 0);
        due("old(0, 1)", listed.old(0, 1), 1);
        NamesInBags torn = tornOnes();
        torn.wipe();
        torn.list(512);
        due("seldom()", torn.seldom(), 0);
        due("old(0, 1)", torn.old(0, 1), 2);
    }

    @Says(at = "Terms", words = "ROW: numbers told last by a call that says so.")
    private static void otherCallsLeaveTheRow() {
        Call[] all = {x -> x.person(0), x -> x.debt(0, 1), x -> x.away(0, 1, 2) ? 1 : 0, x -> x.dies(0, 1),
            x -> x.sheet(2, 3, 1, 1), x -> x.sheet(3, 0, 0, 0), x -> x.pack(0, 3), x -> x.renew(0, true) ? 1 : 0,
            x -> x.drawing(50, 0, 1), x -> x.sign(1), x -> x.end(1) ? 1 : 0, x -> x.rule(), x -> x.other(1),
            x -> x.other(3), x -> x.bars(0), x -> x.judge(0x1, 1), x -> x.hold(0x421, 3) ? 1 : 0,
            x -> x.begin(), x -> x.bag(0, 0), x -> x.sat(0), x -> x.ways(1), x -> x.sure(1, 0), x -> x.list(1), x -> x.wipe(),
            x -> x.seed(5), x -> x.keep(1) ? 1 : 0, x -> x.again(0) ? 1 : 0, x -> x.count(0)};
        for (int i = 0; i < all.length; i++) {
            NamesInBags x = rich();
            List<Long> before = new ArrayList<>();
            tellRow(before, x);
            all[i].on(x);
            List<Long> after = new ArrayList<>();
            tellRow(after, x);
            alike("the row behind call " + i, after, before);
        }
    }

    @Says(at = "Terms", words = "ROW: numbers told last by a call that says so.")
    private static void eachRowTakesTheWholePlace() {
        NamesInBags x = rich();
        due("each(1)", x.each(1), 0);
        due("five numbers", x.count(5), 5);
        due("chance(0, 1)", x.chance(0, 1), 0);
        due("one number", x.count(5), 1);
        due("empty(2)", x.empty(2), 0);
        due("five numbers", x.count(5), 5);
        due("vain(1)", x.vain(1), 0);
        due("two numbers", x.count(5), 2);
        due("each(1)", x.each(1), 0);
        due("seldom()", x.seldom(), 0);
        due("one number", x.count(5), 1);
    }

    @Says(at = "Terms", words = "Refused calls answer NONE, or false, and change nothing.")
    private static void refusedOnANewObject() {
        Call[] all = {x -> x.person(-1), x -> x.debt(0, 0), x -> x.dies(0, 0), x -> x.sheet(4, 0, 0, 0), x -> x.pack(0, 1),
            x -> x.drawing(-1, 0, 1), x -> x.bars(0), x -> x.run(), x -> x.judge(0, 0), x -> x.bag(2, 0), x -> x.sat(0),
            x -> x.chance(0, 0), x -> x.each(0), x -> x.ever(0), x -> x.empty(0), x -> x.vain(0), x -> x.house(0, 0),
            x -> x.ways(0), x -> x.sure(0, 0), x -> x.sit(0, 0), x -> x.known(), x -> x.best(0, 0, 0, 0, 0),
            x -> x.never(0, 0, 0, 0), x -> x.even(0, 0, 1, 0), x -> x.fair(1, 0), x -> x.war(0, 0), x -> x.list(1),
            x -> x.old(2, 0), x -> x.count(10)};
        for (int i = 0; i < all.length; i++) {
            stays("call " + i, NamesInBags::new, all[i], -1);
        }
        Call[] denied = {x -> x.away(0, 0, 0) ? 1 : 0, x -> x.renew(2, true) ? 1 : 0, x -> x.end(1) ? 1 : 0,
            x -> x.hold(0, 0) ? 1 : 0, x -> x.keep(3) ? 1 : 0, x -> x.again(0) ? 1 : 0};
        for (int i = 0; i < denied.length; i++) {
            stays("denied call " + i, NamesInBags::new, denied[i], 0);
        }
    }

    // ---- the town

    @Says(at = "Promise 1", words = "Nobody; BAGS are PACKED with none.")
    private static void newObject() {
        NamesInBags x = new NamesInBags();
        for (int what = 0; what <= 9; what++) {
            due("count(" + what + ")", x.count(what), 0);
        }
        for (int k = 0; k < 4; k++) {
            due("bag", x.bag(k / 2, k % 2), 0);
        }
        due("nobody", x.sat(0), -1);
        due("nobody can be packed", x.pack(0, 1), -1);
        due("but none can", x.pack(0, 0), 0);
        row(x);
    }

    @Says(at = "Promise 2", words = "A PERSON more, of a HOUSE: its number.")
    private static void numbersOfPersons() {
        NamesInBags x = new NamesInBags();
        due("the first", x.person(5), 0);
        due("the second", x.person(5), 1);
        due("refused", x.person(6), -1);
        due("the third", x.person(0), 2);
    }

    @Says(at = "Promise 2", words = "Refused: others, 10.")
    private static void personRefused() {
        for (int house : new int[] {-1, 6, MIN, MAX}) {
            refused("person(" + house + ")", x -> x.person(house));
        }
        stays("the eleventh", EdgesTest::vast, x -> x.person(0), -1);
    }

    @Says(at = "Promise 3", words = "In DEBT up to a DAY (0 .. 999): the one before.")
    private static void debtTellsTheOneBefore() {
        NamesInBags x = packed(10);
        due("at first", x.debt(9, 999), 0);
        due("999", x.debt(9, 1), 999);
        due("1", x.debt(9, 0), 1);
        due("0", x.debt(9, 0), 0);
        due("another person's", x.debt(0, 5), 0);
    }

    @Says(at = "Promise 3", words = "Refused: others.")
    private static void debtRefused() {
        for (int p : new int[] {-1, 5, 10, MIN, MAX}) {
            refused("debt(" + p + ", 7)", x -> x.debt(p, 7));
        }
        for (int day : new int[] {-1, 1000, MIN, MAX}) {
            refused("debt(2, " + day + ")", x -> x.debt(2, day));
        }
    }

    @Says(at = "Promise 4", words = "AWAY from a DAY to another one (each 0 .. 999; to ahead of from: never): true.")
    private static void awayToAheadOfFromIsNever() {
        for (int day : new int[] {0, 99, 100, 101, 999}) {
            due("100 to 99, on " + day, barsOn(day, "wt", away(100, 99)), -2);
            due("999 to 0, on " + day, barsOn(day, "wt", away(999, 0)), -2);
            due("0 to 999, on " + day, barsOn(day, "wt", away(0, 999)), 0);
        }
        NamesInBags x = packed(1);
        x.drawing(5, 0, 1);
        rule(x, "wt");
        due("away", x.away(0, 5, 5), true);
        due("barred", x.bars(0), 0);
        due("never", x.away(0, 6, 5), true);
        due("not barred", x.bars(0), -2);
    }

    @Says(at = "Promise 4", words = "Refused: others.")
    private static void awayRefused() {
        for (int bad : new int[] {-1, 1000, MIN, MAX}) {
            denied("away(2, " + bad + ", 999)", x -> x.away(2, bad, 999));
            denied("away(2, 0, " + bad + ")", x -> x.away(2, 0, bad));
            denied("away(" + bad + ", 0, 999)", x -> x.away(bad, 0, 999));
        }
        denied("away(5, 0, 999)", x -> x.away(5, 0, 999));
    }

    @Says(at = "Promise 5", words = "DEAD from a DAY on (0 .. 999; 1000: never): what it was.")
    private static void diesTellsWhatItWas() {
        NamesInBags x = packed(10);
        due("at first", x.dies(9, 0), 1000);
        due("0", x.dies(9, 999), 0);
        due("999", x.dies(9, 1000), 999);
        due("1000", x.dies(9, 1000), 1000);
        due("never, on 999", barsOn(999, "", y -> y.dies(0, 5) + y.dies(0, 1000)), -2);
    }

    @Says(at = "Promise 5", words = "Refused: others.")
    private static void diesRefused() {
        for (int bad : new int[] {-1, 1001, MIN, MAX}) {
            refused("dies(2, " + bad + ")", x -> x.dies(2, bad));
            refused("dies(" + bad + ", 0)", x -> x.dies(bad, 0));
        }
        refused("dies(5, 0)", x -> x.dies(5, 0));
    }

    /** DEBTS of all PERSONS there are; they stay. */
    private static void debts(NamesInBags x, int... want) {
        for (int p = 0; p < want.length; p++) {
            int got = x.debt(p, 0);
            x.debt(p, got);
            due("debt of " + p, got, want[p]);
        }
        due("persons", x.count(0), want.length);
    }

    @Says(at = "Promise 6", words = "DAYS of DEBT of PERSONS 0, 1, .. (all that there are)")
    private static void sheetOfAllThereAre() {
        NamesInBags x = packed(3);
        due("ten entries, three persons", x.sheet(2, 10, 7, 1), 7 + 8 + 9);
        debts(x, 7, 8, 9);
        x.person(0);
        debts(x, 7, 8, 9, 0);
        due("ten of ten", packed(10).sheet(2, 10, 990, 1), 990 + 991 + 992 + 993 + 994 + 995 + 996 + 997 + 998 + 999);
        due("nobody", new NamesInBags().sheet(2, 10, 7, 1), 0);
    }

    @Says(at = "Promise 6", words = "of bytes, shorts the lowest bits, with their sign")
    private static void lowestBitsWithTheirSign() {
        NamesInBags x = packed(3);
        due("bytes 126, 127, 128", x.sheet(0, 3, 126, 1), 126 + 127);
        debts(x, 126, 127, 0);
        due("bytes 255, 256, 257", x.sheet(0, 3, 255, 1), 0 + 0 + 1);
        debts(x, 0, 0, 1);
        due("bytes below 0: -129 is 127", x.sheet(0, 3, -129, -1), 127 + 126 + 125);
        debts(x, 127, 126, 125);
        due("shorts 65535, 65536, 65537", x.sheet(1, 3, 65535, 1), 0 + 0 + 1);
        debts(x, 0, 0, 1);
        due("shorts 32767, 32768, 32769", x.sheet(1, 3, 32767, 1), 999);
        debts(x, 999, 0, 0);
        due("shorts: -65000 is 536", x.sheet(1, 3, -65000, 1), 536 + 537 + 538);
        debts(x, 536, 537, 538);
        due("ints 65535, 65536, 65537", x.sheet(2, 3, 65535, 1), 3 * 999);
        debts(x, 999, 999, 999);
    }

    @Says(at = "Promise 6", words = "below 0: 0, above 999: 999")
    private static void sheetDaysHaveBounds() {
        NamesInBags x = packed(4);
        due("998 .. 1001", x.sheet(2, 4, 998, 1), 998 + 3 * 999);
        debts(x, 998, 999, 999, 999);
        due("1 .. -2", x.sheet(2, 4, 1, -1), 1);
        debts(x, 1, 0, 0, 0);
        due("shorts 998 .. 1001", x.sheet(1, 4, 998, 1), 998 + 3 * 999);
        due("bytes 1 .. -2", x.sheet(0, 4, 1, -1), 1);
        due("the least int", x.sheet(2, 4, MIN, 0), 0);
        due("the greatest int", x.sheet(2, 4, MAX, 0), 4 * 999);
    }

    @Says(at = "Promise 6", words = "n entries f, f + step, ..")
    private static void sheetEntriesWrap() {
        NamesInBags x = packed(4);
        due("ints: behind the greatest comes the least", x.sheet(2, 2, MAX, 1), 999);
        debts(x, 999, 0, 0, 0);
        due("ints: ahead of the least comes the greatest", x.sheet(2, 2, MIN, -1), 999);
        debts(x, 0, 999, 0, 0);
        due("twice the least is none", x.sheet(2, 4, 5, MIN), 5 + 0 + 5 + 0);
        debts(x, 5, 0, 5, 0);
        due("bytes of great steps", x.sheet(0, 3, MAX - 5, 3), 0 + 0 + 0);
        due("bytes of great steps", x.sheet(0, 3, MAX - 5, 6), 0 + 0 + 6);
        debts(x, 0, 0, 6, 0);
    }

    @Says(at = "Promise 6", words = "of PERSONS behind it 0: the sum of all.")
    private static void personsBehindTheSheet() {
        NamesInBags x = packed(3);
        x.sheet(2, 3, 9, 0);
        due("two entries", x.sheet(2, 2, 5, 0), 10);
        debts(x, 5, 5, 0);
        due("no entry", x.sheet(2, 0, 5, 0), 0);
        debts(x, 0, 0, 0);
    }

    @Says(at = "Promise 6", words = "-2: n below 0 (of kinds 0 .. 2; nothing changes)")
    private static void sheetOfLessThanNone() {
        for (int kind = 0; kind <= 2; kind++) {
            int k = kind;
            stays("n -1, kind " + k, EdgesTest::rich, x -> x.sheet(k, -1, 5, 5), -2);
            stays("n least, kind " + k, EdgesTest::rich, x -> x.sheet(k, MIN, 5, 5), -2);
        }
    }

    @Says(at = "Promise 6", words = "-3: missing (all 0)")
    private static void sheetIsMissing() {
        for (int n : new int[] {0, 1, 10, -1, MIN}) {
            NamesInBags x = packed(3);
            x.sheet(2, 3, 9, 0);
            due("n " + n, x.sheet(3, n, 5, 5), -3);
            debts(x, 0, 0, 0);
        }
    }

    @Says(at = "Promise 6", words = "NONE: another kind, n above 10 (these first).")
    private static void sheetRefused() {
        for (int kind : new int[] {-1, 4, MIN, MAX}) {
            refused("kind " + kind, x -> x.sheet(kind, 3, 5, 5));
            refused("kind " + kind + ", n below 0", x -> x.sheet(kind, -1, 5, 5));
        }
        for (int kind = 0; kind <= 3; kind++) {
            int k = kind;
            refused("n 11, kind " + k, x -> x.sheet(k, 11, 5, 5));
            refused("n most, kind " + k, x -> x.sheet(k, MAX, 5, 5));
        }
    }

    @Says(at = "Promise 7", words = "THE CHEST has it so now, none LAID ASIDE from it: what it was PACKED with.")
    private static void packTakesPlaceAtOnce() {
        NamesInBags x = rich();
        due("aside", x.bag(0, 1), 1);
        due("pack(0, 16)", x.pack(0, 16), 31);
        due("in it", x.bag(0, 0), 16);
        due("aside", x.bag(0, 1), 0);
        due("packed", x.count(7), 16);
        due("bag 1 stays", x.bag(1, 0), 22);
        due("done ones stay", x.count(2), 1);
        due("sat stays", x.sat(2), 0);
        due("with none", x.pack(0, 0), 16);
        due("with all", x.pack(0, 31), 0);
        due("the other one", x.pack(1, 0), 22);
    }

    @Says(at = "Promise 7", words = "THE CHEST has it so now, none LAID ASIDE from it: what it was PACKED with.")
    private static void packLeavesTheOtherBagsAside() {
        NamesInBags x = rich();
        due("pack(1, 3)", x.pack(1, 3), 22);
        due("aside from 0", x.bag(0, 1), 1);
        due("in 0", x.bag(0, 0), 10);
    }

    @Says(at = "Promise 7", words = "Refused: others.")
    private static void packRefused() {
        for (int bits : new int[] {32, 33, 1024, -1, MIN, MAX}) {
            refused("pack(0, " + bits + ")", x -> x.pack(0, bits));
        }
        for (int bag : new int[] {-1, 2, MIN, MAX}) {
            refused("pack(" + bag + ", 1)", x -> x.pack(bag, 1));
        }
        due("all ten", packed(10).pack(1, 1023), 0);
        due("an eleventh", packed(10).pack(1, 1024), -1);
    }

    @Says(at = "Promise 8", words = "A BAG is RENEWED, or not: true.")
    private static void renewOnAndOff() {
        NamesInBags x = packed(1);
        for (int d = 0; d < 4; d++) {
            x.drawing(0, 0, 1);
        }
        due("on", x.renew(0, true), true);
        due("run()", x.run(), 1);
        due("renewed", x.run(), 1);
        due("off", x.renew(0, false), true);
        due("not renewed", x.run(), 0);
        due("off again", x.renew(0, false), true);
        due("on again", x.renew(0, true), true);
        due("renewed", x.run(), 1);
    }

    @Says(at = "Promise 8", words = "Refused: none such.")
    private static void renewRefused() {
        for (int bag : new int[] {-1, 2, MIN, MAX}) {
            denied("renew(" + bag + ", true)", x -> x.renew(bag, true));
            denied("renew(" + bag + ", false)", x -> x.renew(bag, false));
        }
    }

    @Says(at = "Promise 9", words = "Refused: others, a DAY ahead of the one before, 6.")
    private static void drawingRefused() {
        for (int day : new int[] {-1, 1000, MIN, MAX}) {
            refused("day " + day, x -> x.drawing(day, 0, 1));
        }
        for (int bag : new int[] {-1, 2, MIN, MAX}) {
            refused("bag " + bag, x -> x.drawing(50, bag, 1));
        }
        for (int seats : new int[] {-1, 0, 4, MIN, MAX}) {
            refused("seats " + seats, x -> x.drawing(50, 0, seats));
        }
        refused("a day ahead", x -> x.drawing(39, 0, 1));
        stays("the seventh", EdgesTest::sixDrawings, x -> x.drawing(50, 0, 1), -1);
    }

    private static NamesInBags sixDrawings() {
        NamesInBags x = rich();
        x.drawing(40, 0, 1);
        x.drawing(40, 0, 1);
        return x;
    }

    @Says(at = "Promise 9", words = "A DRAWING more: its number.")
    private static void drawingNumbers() {
        NamesInBags x = rich();
        due("the fifth, on the day of the fourth", x.drawing(40, 1, 3), 4);
        due("the sixth, on the last day", x.drawing(999, 0, 1), 5);
        due("done ones stay", x.count(2), 1);
    }

    @Says(at = "Promise 10", words = "Four signs come behind THE TEXT, of v the highest byte first: how many it has.")
    private static void highestByteFirst() {
        NamesInBags x = new NamesInBags();
        due("sign", x.sign('s' << 24 | '3' << 16 | 'l' << 8 | ';'), 4);
        due("sign", x.sign('d' << 24 | 't' << 16 | 0xff << 8 | 0xff), 8);
        due("end", x.end(6), true);
        due("rule()", x.rule(), 2);
        due("sign, below 0", x.sign(-1), 4);
        due("255 can't stand", x.rule(), -1);
        due("behind what there is", x.sign('k' << 24), 4);
        due("end", x.end(1), true);
        due("five", x.sign('b' << 24 | ';' << 16 | 'w' << 8 | 'b'), 5);
        due("rule()", x.rule(), 2);
    }

    @Says(at = "Promise 10", words = "Refused: there would be more than 40.")
    private static void fortySignsAndNoMore() {
        NamesInBags x = new NamesInBags();
        for (int n = 1; n <= 10; n++) {
            due("sign", x.sign('k' << 24 | 'b' << 16 | ';' << 8 | 'd'), 4 * n);
        }
        for (int length = 37; length <= 40; length++) {
            int n = length;
            stays(n + " signs", () -> withSigns(n), y -> y.sign('k' << 24), -1);
        }
        due("36 signs", withSigns(36).sign(0), 40);
    }

    private static NamesInBags withSigns(int length) {
        NamesInBags x = new NamesInBags();
        for (int n = 0; n < 40; n += 4) {
            x.sign('k' << 24 | 'b' << 16 | ';' << 8 | 'd');
        }
        x.end(length);
        return x;
    }

    @Says(at = "Promise 11", words = "THE TEXT has its first n signs alone: true")
    private static void firstSignsAlone() {
        NamesInBags x = new NamesInBags();
        text(x, "kb;dt;wl");
        due("all of them", x.end(8), true);
        due("eight", x.count(4), 8);
        due("five", x.end(5), true);
        due("five", x.count(4), 5);
        due("the first ones", x.rule(), 2);
        due("none of none", x.end(0), true);
        text(x, "zz");
        due("none", x.end(0), true);
        due("an empty rule", x.rule(), 0);
    }

    @Says(at = "Promise 11", words = "false if it has not so many, or n is below 0.")
    private static void endDenied() {
        for (int n : new int[] {5, 6, 40, 41, MAX, -1, MIN}) {
            denied("end(" + n + ")", x -> x.end(n));
        }
        due("1 of none", new NamesInBags().end(1), false);
        due("-1 of none", new NamesInBags().end(-1), false);
        due("41 of 40", withSigns(40).end(41), false);
        due("40 of 40", withSigns(40).end(40), true);
    }

    @Says(at = "Promise 12", words = "THE TEXT, which is empty then, is THE RULE: how many LINES.")
    private static void textIsEmptyThen() {
        NamesInBags x = packed(1);
        x.debt(0, 5);
        x.drawing(0, 0, 1);
        for (int lines = 1; lines <= 6; lines++) {
            due("lines", rule(x, "kb;kb;kb;kb;kb;".substring(0, 3 * (lines - 1)) + "dl"), lines);
            due("it is empty", x.count(4), 0);
            due("count(3)", x.count(3), lines);
            due("the last one bars", x.bars(0), lines - 1);
        }
        due("a fault", rule(x, "kb;x"), -4);
        due("it is empty", x.count(4), 0);
        due("THE RULE stays", x.count(3), 6);
        due("THE RULE stays", x.bars(0), 5);
        due("a fault at 0", rule(x, "xxxx"), -1);
        due("it is empty", x.count(4), 0);
        due("THE RULE stays", x.bars(0), 5);
    }

    @Says(at = "Promise 12", words = "THE TEXT, which is empty then, is THE RULE: how many LINES.")
    private static void linesOfTheOneBeforeAreGone() {
        NamesInBags x = packed(2);
        x.debt(0, 5);
        x.away(0, 5, 5);
        x.drawing(0, 0, 1);
        x.drawing(5, 0, 1);
        rule(x, "dl;wt;wt");
        rule(x, "dl");
        due("aside", x.hold(0x10, 2), true);
        due("none bars", x.bars(0), -2);
        x.keep(0);
        due("in it again", x.hold(0, 1), true);
        due("it sat", x.sat(0), 1);
        x.again(0);
        due("seven lines", rule(x, "kb;kb;kb;kb;kb;kb;kt"), 7);
        due("in it again", x.hold(0, 1), true);
    }

    @Says(at = "Promise 12", words = "-1 - p: the sign at p can't stand there")
    private static void signThatCannotStand() {
        String good = "s1b;kt;dl;wb;s6t;kb";
        NamesInBags x = new NamesInBags();
        due("good", rule(x, good), 6);
        for (int p = 0; p < good.length(); p++) {
            String bad = good.substring(0, p) + "x" + good.substring(p + 1);
            due("x at " + p, rule(x, bad), -1 - p);
        }
    }

    @Says(at = "Promise 12", words = "its end, if it ends too early")
    private static void endsTooEarly() {
        String good = "s1b;kt;dl;wb;s6t;kb;k";
        NamesInBags x = new NamesInBags();
        for (int n = 1; n <= 20; n++) {
            boolean whole = n == 3 || n == 6 || n == 9 || n == 12 || n == 16 || n == 19;
            int got = rule(x, good.substring(0, n));
            due("the first " + n, whole ? Integer.signum(got) : got, whole ? 1 : -1 - n);
        }
    }

    private static final String MORE_THAN_20 = "20, if it has more and the first 20 could go on or end";

    @Says(at = "Promise 12", words = MORE_THAN_20)
    private static void moreThanTwentySigns() {
        NamesInBags x = new NamesInBags();
        String whole = "kb;kb;kb;kb;kb;kb;kb";
        String open = "s1b;kb;kb;kb;kb;kb;k";
        String between = "s1b;s2b;kb;kb;kb;kb;";
        due("20 could end", rule(x, whole + ";"), -21);
        due("20 could end, then a fault", rule(x, whole + "x"), -21);
        due("20 could go on", rule(x, open + "b"), -21);
        due("20 could go on, then a fault", rule(x, open + "x"), -21);
        due("20 could go on behind ;", rule(x, between + "kb"), -21);
        due("40", rule(x, whole + ";" + whole.substring(1)), -21);
    }

    @Says(at = "Promise 12", words = MORE_THAN_20)
    private static void aFaultAheadOfTwenty() {
        NamesInBags x = new NamesInBags();
        String whole = "kb;kb;kb;kb;kb;kb;kb";
        due("at 19", rule(x, whole.substring(0, 19) + "x;kb"), -20);
        due("at 0", rule(x, "x" + whole.substring(1) + ";kb"), -1);
        due("at 19, of just 20", rule(x, whole.substring(0, 19) + "x"), -20);
        due("20 that end too early", rule(x, "s1b;kb;kb;kb;kb;kb;k"), -21);
    }

    @Says(at = "Promise 13", words = "THE TEXT, which is empty then, is another RULE beside (0 .. 2): how many LINES")
    private static void threeOthers() {
        NamesInBags x = new NamesInBags();
        rule(x, "kb");
        for (int i = 0; i <= 2; i++) {
            due("other(" + i + ")", other(x, i, "kb;dt;wl".substring(0, 3 * i + 2)), i + 1);
            due("it is empty", x.count(4), 0);
            due("told", x.count(9), (2 << i) - 1);
        }
        due("THE RULE stays", x.count(3), 1);
        due("an empty one", other(x, 1, ""), 0);
        due("told", x.count(9), 7);
    }

    @Says(at = "Promise 13", words = "-1 - p as rule()")
    private static void otherWithAFault() {
        NamesInBags x = new NamesInBags();
        due("at 0", other(x, 0, "x"), -1);
        due("its end", other(x, 0, "kb;"), -4);
        due("more than 20", other(x, 0, "kb;kb;kb;kb;kb;kb;kb;"), -21);
        due("it is empty", x.count(4), 0);
        due("none told", x.count(9), 0);
        due("told", other(x, 0, ""), 0);
        due("a fault", other(x, 0, "kb;x"), -4);
        due("told still", x.count(9), 1);
    }

    @Says(at = "Promise 13", words = "-1 - p as rule()")
    private static void otherWithAFaultStaysAsItWas() {
        NamesInBags x = town(0, 0, 1);
        x.debt(0, 5);
        x.drawing(0, 0, 1);
        rule(x, "dt");
        other(x, 1, "");
        other(x, 1, "dt;");
        due("the empty one is fairer", x.fair(7, 0), 1);
        row(x, 0);
    }

    @Says(at = "Promise 13", words = "-100: none such (asked first).")
    private static void noSuchOther() {
        for (int i : new int[] {-1, 3, MIN, MAX, 32}) {
            NamesInBags x = new NamesInBags();
            due("a good text", other(x, i, "kb"), -100);
            due("a fault", other(x, i, "x"), -100);
            due("an empty one", other(x, i, ""), -100);
            due("too long", other(x, i, "kb;kb;kb;kb;kb;kb;kb;"), -100);
            due("it is empty", x.count(4), 0);
            due("none told", x.count(9), 0);
        }
    }

    // ---- drawings

    @Says(at = "Promise 14", words = "Which LINE bars a PERSON in the next DRAWING, none sitting yet: its number; -2: none; -3: it is DEAD.")
    private static void barsTells() {
        NamesInBags x = town(0, 0, 1);
        x.debt(0, 5);
        x.drawing(0, 0, 1);
        x.drawing(0, 0, 1);
        rule(x, "kb;wb;db;dt;kb;kb;kb");
        due("the first that bars", x.bars(0), 2);
        due("none", x.bars(1), -2);
        x.dies(0, 0);
        due("dead, though a line bars", x.bars(0), -3);
        x.dies(1, 0);
        due("dead", x.bars(1), -3);
        rule(x, "kb;kb;kb;kb;kb;kb;dt");
        x.dies(0, 1);
        due("the last of seven", x.bars(0), 6);
    }

    @Says(at = "Promise 14", words = "Which LINE bars a PERSON in the next DRAWING, none sitting yet: its number; -2: none; -3: it is DEAD.")
    private static void barsLooksAtTheNextOne() {
        NamesInBags x = town(0, 0);
        x.debt(0, 5);
        x.drawing(4, 0, 1);
        x.drawing(5, 0, 1);
        rule(x, "db;kt");
        due("on 4", x.bars(0), 0);
        due("hold", x.hold(1, 1), true);
        due("on 5, kin sat but does not sit", x.bars(0), -2);
    }

    @Says(at = "Promise 14", words = "NONE: no such PERSON, no DRAWING left.")
    private static void barsRefused() {
        for (int p : new int[] {-1, 5, 10, MIN, MAX}) {
            refused("bars(" + p + ")", x -> x.bars(p));
        }
        stays("no drawing left", EdgesTest::allDone, x -> x.bars(0), -1);
        stays("no drawing at all", () -> packed(2), x -> x.bars(0), -1);
    }

    /** The rich town with all its DRAWINGS done. */
    private static NamesInBags allDone() {
        NamesInBags x = rich();
        for (int d = 1; d < 4; d++) {
            x.run();
        }
        due("all done", x.count(2), 4);
        return x;
    }

    @Says(at = "Promise 15", words = "how many sit; the ROW: they, in order, then all slips that were drawn, in order.")
    private static void runTellsInOrder() {
        NamesInBags x = town(0, 1, 2);
        x.dies(1, 0);
        x.drawing(0, 0, 2);
        // Behind R 1: 16838 % 3 is 2, so 2 sits; then of 0, 1 by the next one; then the last one.
        long second = nextOf(nextOf(1)) / 65536 % 2;
        due("run()", x.run(), 2);
        if (second == 0) {
            row(x, 2, 0, 2, 0);
        } else {
            row(x, 2, 0, 2, 1, 0);
        }
        NamesInBags y = town(0, 1, 2);
        y.dies(1, 0);
        y.drawing(0, 0, 3);
        due("all slips are drawn", y.run(), 2);
        due("two sit, three are drawn", y.count(5), 5);
    }

    @Says(at = "Promise 15", words = "how many sit; the ROW: they, in order, then all slips that were drawn, in order.")
    private static void runOnAnEmptyBag() {
        NamesInBags x = packed(2);
        x.drawing(0, 1, 3);
        x.seldom();
        due("none sits", x.run(), 0);
        row(x);
        due("done", x.count(2), 1);
        due("R stays", x.seed(0), 1);
    }

    @Says(at = "Promise 15", words = "NONE: no DRAWING left.")
    private static void runRefused() {
        stays("all done", EdgesTest::allDone, x -> x.run(), -1);
        stays("none at all", () -> packed(2), x -> x.run(), -1);
    }

    @Says(at = "Promise 16", words = "0 .. 9 by four bits each, the first one lowest (n 0 .. 10 of them)")
    private static void judgeOfNoneToTen() {
        NamesInBags x = packed(10);
        x.drawing(0, 0, 3);
        for (int p = 0; p < 10; p++) {
            x.debt(p, 1);
        }
        rule(x, "db");
        for (int n = 0; n <= 10; n++) {
            due("n " + n, x.judge(0x9876543210L, n), n);
        }
        due("9 first", x.judge(0x0123456789L, 10), 10);
        due("the lowest is the first", x.judge(0x00L, 2), 1);
        due("what stands behind n is no matter", x.judge(-16L, 1), 1);
        due("what stands behind ten is no matter", x.judge(-1L << 40 | 0x9876543210L, 10), 10);
    }

    @Says(at = "Promise 16", words = "till the first that can't (no slip of it is there to draw, or all SEATS are filled); nothing changes.")
    private static void judgeTillTheFirstThatCannot() {
        NamesInBags x = packed(4);
        x.pack(0, 7);
        x.drawing(0, 0, 2);
        due("one who is not packed", x.judge(0x03, 2), 0);
        due("one who is no person", x.judge(0x09, 2), 0);
        due("the second can't", x.judge(0x130, 3), 1);
        due("drawn already", x.judge(0x100, 3), 1);
        due("all seats are filled", x.judge(0x210, 3), 2);
        due("all seats are filled", x.judge(0x310, 3), 2);
        for (long slips : new long[] {0x421, 0x1, 0x9, 0x21, 0x4213}) {
            stays("judge", EdgesTest::rich, y -> y.judge(slips, 0), 0);
            long can = slips == 0x421 ? 3 : slips == 0x21 ? 2 : slips == 0x1 ? 1 : 0;
            int n = Long.toHexString(slips).length();
            stays("judge " + Long.toHexString(slips), EdgesTest::rich, y -> y.judge(slips, n), can);
        }
    }

    @Says(at = "Promise 16", words = "NONE: others, no DRAWING left.")
    private static void judgeRefused() {
        for (int n : new int[] {-1, 11, 16, MIN, MAX}) {
            refused("n " + n, x -> x.judge(0x421, n));
        }
        for (int bad = 10; bad <= 15; bad++) {
            long slip = bad;
            refused("first slip " + bad, x -> x.judge(slip, 1));
            refused("behind one that can't be", x -> x.judge(slip << 4 | 3, 2));
            refused("tenth slip " + bad, x -> x.judge(slip << 36, 10));
        }
        stays("no drawing left", EdgesTest::allDone, x -> x.judge(0, 0), -1);
        stays("no drawing at all", () -> packed(2), x -> x.judge(0, 1), -1);
    }

    private static final String HOLD =
        "It is done with these slips: whether all of them can be drawn, and it ends with the last one: true; else false, nothing changes.";

    @Says(at = "Promise 17", words = HOLD)
    private static void holdEndsWithTheLastOne() {
        NamesInBags x = packed(4);
        x.debt(3, 5);
        x.drawing(0, 0, 2);
        x.drawing(0, 0, 3);
        rule(x, "db");
        due("as all seats are filled", x.hold(0x130, 3), true);
        due("0 sat", x.sat(0), 0);
        due("1 sat", x.sat(1), 0);
        due("3 did not", x.sat(3), -2);
        due("left", x.bag(0, 0), 12);
        due("done", x.count(2), 1);
        due("R stays", x.seed(1), 1);
        due("as none is left", x.hold(0x32, 2), true);
        due("3 is put by once more", x.bag(0, 0), 8);
    }

    @Says(at = "Promise 17", words = HOLD)
    private static void holdOfNoneOnAnEmptyBag() {
        NamesInBags x = packed(1);
        x.drawing(0, 1, 1);
        due("a slip can't be drawn", x.hold(0, 1), false);
        due("less than none can't be", x.hold(0, -1), false);
        due("it ends with none", x.hold(0, 0), true);
        due("done", x.count(2), 1);
    }

    @Says(at = "Promise 17", words = HOLD)
    private static void holdDenied() {
        denied("none of three", x -> x.hold(0x421, 0));
        denied("not the last one yet", x -> x.hold(0x21, 2));
        denied("what stands behind n is not drawn", x -> x.hold(0x421, 2));
        denied("one too many", x -> x.hold(0x0421, 4));
        denied("no such slip", x -> x.hold(0x423, 3));
        denied("twice", x -> x.hold(0x411, 3));
        denied("n -1", x -> x.hold(0x421, -1));
        denied("n 11", x -> x.hold(0x421, 11));
        denied("n least", x -> x.hold(0x421, MIN));
        denied("n most", x -> x.hold(0x421, MAX));
        denied("10 is no slip", x -> x.hold(0xA21, 3));
        stays("no drawing left", EdgesTest::allDone, x -> x.hold(0, 0) ? 1 : 0, 0);
        due("good", rich().hold(0x421, 3), true);
    }

    @Says(at = "Promise 18", words = "THE CHEST is as it was before all DRAWINGS: how many were done.")
    private static void beginAnew() {
        for (int done = 0; done <= 4; done++) {
            NamesInBags x = rich();
            x.again(done == 0 ? 0 : 2);
            for (int d = 1; d < done; d++) {
                x.run();
            }
            due("begin()", x.begin(), done);
            due("none is done", x.count(2), 0);
            due("bag 0", x.bag(0, 0), 31);
            due("bag 1", x.bag(1, 0), 22);
            due("aside", x.bag(0, 1) | x.bag(1, 1), 0);
            for (int p = 0; p < 5; p++) {
                due("sat", x.sat(p), -2);
            }
            due("begin() again", x.begin(), 0);
        }
    }

    @Says(at = "Promise 18", words = "THE CHEST is as it was before all DRAWINGS: how many were done.")
    private static void beginAsPackedNow() {
        NamesInBags x = rich();
        x.pack(0, 3);
        x.hold(0x421, 3);
        x.run();
        due("begin()", x.begin(), 3);
        due("bag 0", x.bag(0, 0), 3);
        due("R stays", rich().seed(0), -99);
        NamesInBags y = rich();
        y.begin();
        due("R stays", y.seed(0), -99);
    }

    @Says(at = "Promise 19", words = "Slips (bits) in a BAG (what 0), LAID ASIDE from it (1). NONE: others.")
    private static void bagTellsAndRefuses() {
        NamesInBags x = rich();
        due("in 0", x.bag(0, 0), 10);
        due("aside from 0", x.bag(0, 1), 1);
        due("in 1", x.bag(1, 0), 22);
        due("aside from 1", x.bag(1, 1), 0);
        for (int bad : new int[] {-1, 2, MIN, MAX}) {
            refused("bag " + bad, y -> y.bag(bad, 0));
            refused("what " + bad, y -> y.bag(0, bad));
        }
    }

    @Says(at = "Promise 20", words = "-2: in none; NONE: none such.")
    private static void satInNone() {
        NamesInBags x = rich();
        due("in none", x.sat(0), -2);
        due("in 0", x.sat(4), 0);
        for (int p : new int[] {-1, 5, 10, MIN, MAX}) {
            refused("sat(" + p + ")", y -> y.sat(p));
        }
    }

    // ---- chances

    /** A DRAWING that is done, one behind the last, and what is none at all. */
    private static final int[] NOT_AHEAD = {-1, 0, 4, 6, MIN, MAX};
    private static final int[] NO_PERSON = {-1, 5, 10, MIN, MAX};
    private static final int[] NO_BITS = {32, 33, 1024, -1, MIN, MAX};

    @Says(at = "Promise 21", words = "The CHANCE that a PERSON sits in a DRAWING (not yet done): 0; the ROW: it. -3; NONE: others.")
    private static void chanceRefused() {
        for (int d : NOT_AHEAD) {
            refused("drawing " + d, x -> x.chance(0, d));
        }
        for (int p : NO_PERSON) {
            refused("person " + p, x -> x.chance(p, 1));
        }
        for (int d = 1; d <= 3; d++) {
            int ahead = d;
            asks("drawing " + d, EdgesTest::rich, x -> x.chance(4, ahead), 0);
        }
    }

    @Says(at = "Promise 21", words = "The CHANCE that a PERSON sits in a DRAWING (not yet done): 0; the ROW: it. -3; NONE: others.")
    private static void chanceOfOneWhoCannot() {
        NamesInBags x = packed(3);
        x.pack(0, 3);
        x.drawing(0, 0, 3);
        x.chance(2, 0);
        row(x, 0);
        x.chance(1, 0);
        row(x, WHOLE);
        x.dies(1, 0);
        x.chance(1, 0);
        row(x, 0);
    }

    @Says(at = "Promise 22", words = "CHANCES of all PERSONS to sit in a DRAWING: 0; the ROW: they. -3; NONE: others.")
    private static void eachRefused() {
        for (int d : NOT_AHEAD) {
            refused("drawing " + d, x -> x.each(d));
        }
        asks("each(3)", EdgesTest::rich, x -> x.each(3), 0);
        NamesInBags x = new NamesInBags();
        x.drawing(0, 0, 1);
        x.seldom();
        due("nobody", x.each(0), 0);
        row(x);
        NamesInBags ten = packed(10);
        ten.drawing(0, 0, 1);
        due("ten", ten.each(0), 0);
        long tenth = WHOLE / 10;
        row(ten, tenth, tenth, tenth, tenth, tenth, tenth, tenth, tenth, tenth, tenth);
    }

    @Says(at = "Promise 23", words = "The CHANCE that a PERSON sits in some DRAWING not yet done (one that it may sit in twice counts once)")
    private static void everCountsOnce() {
        NamesInBags x = packed(2);
        x.pack(1, 1);
        x.drawing(0, 0, 1);
        x.drawing(0, 1, 1);
        due("ever(0)", x.ever(0), 0);
        row(x, WHOLE);
        due("ever(1)", x.ever(1), 0);
        row(x, WHOLE / 2);
        x.hold(1, 1);
        due("what is done does not count", x.ever(1), 0);
        row(x, 0);
    }

    @Says(at = "Promise 23", words = "The CHANCE that a PERSON sits in some DRAWING not yet done (one that it may sit in twice counts once)")
    private static void everUpToTheLastOne() {
        NamesInBags x = packed(4);
        x.drawing(0, 0, 1);
        due("of one", x.ever(3), 0);
        row(x, WHOLE / 4);
        x.drawing(0, 0, 1);
        due("of two: in the second one by 3 times a cut twelfth", x.ever(3), 0);
        row(x, 3 * 83333333333L + 3 * 83333333333L);
    }

    @Says(at = "Promise 23", words = "-3; NONE: others, no DRAWING left.")
    private static void everRefused() {
        for (int p : NO_PERSON) {
            refused("ever(" + p + ")", x -> x.ever(p));
        }
        stays("no drawing left", EdgesTest::allDone, x -> x.ever(0), -1);
        stays("no drawing at all", () -> packed(2), x -> x.ever(0), -1);
        asks("ever(4)", EdgesTest::rich, x -> x.ever(4), 0);
        tooMany("too many in the last one", EdgesTest::vast, x -> x.ever(0));
    }

    @Says(at = "Promise 24", words = "the ROW: it, then for 0, 1, .. all SEATS that so many are filled. -3; NONE: others.")
    private static void emptyForEachNumberOfSeats() {
        for (int seats = 1; seats <= 3; seats++) {
            for (int slips = 0; slips <= 4; slips++) {
                NamesInBags x = packed(4);
                x.pack(0, (1 << slips) - 1);
                x.drawing(0, 0, seats);
                due("empty(0)", x.empty(0), 0);
                due("numbers", x.count(5), seats + 2);
                due("a seat stays empty", numberAt(x, 0) > 0, slips < seats);
                for (int n = 0; n <= seats; n++) {
                    due(n + " are filled", numberAt(x, 1 + n) > 0, n == Math.min(slips, seats));
                }
            }
        }
        NamesInBags x = town(0, 0);
        x.drawing(0, 0, 2);
        rule(x, "kt");
        due("one of two kin", x.empty(0), 0);
        row(x, WHOLE, 0, WHOLE, 0);
    }

    @Says(at = "Promise 24", words = "the ROW: it, then for 0, 1, .. all SEATS that so many are filled. -3; NONE: others.")
    private static void emptyRefused() {
        for (int d : NOT_AHEAD) {
            refused("drawing " + d, x -> x.empty(d));
        }
        asks("empty(3)", EdgesTest::rich, x -> x.empty(3), 0);
    }

    @Says(at = "Promise 25", words = "the sum of the CHANCES of all from which a slip was drawn, then the sum of what came by slips whose PERSON did not sit")
    private static void vainDraws() {
        NamesInBags x = packed(2);
        x.drawing(0, 0, 1);
        due("all sit", x.vain(0), 0);
        row(x, WHOLE, 0);
        x.dies(0, 0);
        due("one is dead", x.vain(0), 0);
        row(x, WHOLE + WHOLE / 2, WHOLE / 2);
        x.dies(1, 0);
        due("both are dead", x.vain(0), 0);
        row(x, 2 * WHOLE, 2 * WHOLE);
        x.pack(0, 0);
        due("nothing to draw", x.vain(0), 0);
        row(x, 0, 0);
    }

    @Says(at = "Promise 25", words = "-3; NONE: others.")
    private static void vainRefused() {
        for (int d : NOT_AHEAD) {
            refused("drawing " + d, x -> x.vain(d));
        }
        asks("vain(3)", EdgesTest::rich, x -> x.vain(3), 0);
    }

    @Says(at = "Promise 26", words = "The CHANCE that a HOUSE has one at least who sits in a DRAWING: 0; the ROW: it, then SEATS it has on average")
    private static void houseWithOneAtLeast() {
        NamesInBags x = town(0, 0, 5);
        x.drawing(0, 0, 2);
        due("house 0: one at least, two of three times a third", x.house(0, 0), 0);
        row(x, 3 * 333333333332L, 4 * 333333333332L);
        due("house 5", x.house(5, 0), 0);
        row(x, 2 * 333333333332L, 2 * 333333333332L);
        due("nobody's house", x.house(3, 0), 0);
        row(x, 0, 0);
    }

    @Says(at = "Promise 26", words = "-3; NONE: others.")
    private static void houseRefused() {
        for (int d : NOT_AHEAD) {
            refused("drawing " + d, x -> x.house(0, d));
        }
        for (int h : new int[] {-1, 6, MIN, MAX}) {
            refused("house " + h, x -> x.house(h, 1));
        }
        asks("house(5, 3)", EdgesTest::rich, x -> x.house(5, 3), 0);
    }

    @Says(at = "Promise 27", words = "In how many unlike ways a DRAWING can end. -3; NONE: others.")
    private static void waysAndRefused() {
        for (int d : NOT_AHEAD) {
            refused("drawing " + d, x -> x.ways(d));
        }
        NamesInBags x = packed(3);
        x.drawing(0, 1, 1);
        x.drawing(0, 0, 1);
        x.drawing(0, 0, 1);
        x.drawing(0, 0, 3);
        due("an empty bag", x.ways(0), 1);
        due("one of three", x.ways(1), 3);
        due("two of three, in order", x.ways(2), 6);
        due("three of three, in order", x.ways(3), 6);
        stays("ways tells no row", EdgesTest::rich, y -> y.ways(1), 1);
    }

    // ---- what is sure

    @Says(at = "Promise 28", words = "PERSONS (bits) that sit in a DRAWING in all ways (what 0), in some (1). -3; NONE: others.")
    private static void sureAndRefused() {
        NamesInBags x = packed(10);
        x.pack(0, 7);
        x.pack(1, 512);
        x.drawing(0, 0, 3);
        x.drawing(0, 1, 3);
        x.drawing(0, 0, 1);
        due("all", x.sure(0, 0), 7);
        due("some", x.sure(0, 1), 7);
        due("the tenth", x.sure(1, 0), 512);
        due("none", x.sure(2, 0), 0);
        due("none", x.sure(2, 1), 0);
        x.pack(0, 15);
        due("none is sure", x.sure(0, 0), 0);
        due("each may", x.sure(0, 1), 15);
        for (int d : NOT_AHEAD) {
            refused("drawing " + d, y -> y.sure(d, 0));
        }
        for (int what : new int[] {-1, 2, MIN, MAX}) {
            refused("what " + what, y -> y.sure(1, what));
        }
    }

    @Says(at = "Promise 29", words = "Whether PERSONS told as bits can be just those who sit in a DRAWING: 1, 0; the ROW: the CHANCE that they are.")
    private static void justThose() {
        NamesInBags x = packed(4);
        x.drawing(0, 0, 2);
        x.drawing(0, 1, 1);
        due("two", x.sit(0, 3), 1);
        row(x, 2 * 83333333333L);
        for (int bits : new int[] {0, 1, 2, 7, 15}) {
            due("not just " + bits, x.sit(0, bits), 0);
            row(x, 0);
        }
        due("nobody, from an empty bag", x.sit(1, 0), 1);
        row(x, 6 * 2 * 83333333333L);
    }

    @Says(at = "Promise 29", words = "-3; NONE: others.")
    private static void sitRefused() {
        for (int d : NOT_AHEAD) {
            refused("drawing " + d, x -> x.sit(d, 1));
        }
        for (int bits : NO_BITS) {
            refused("bits " + bits, x -> x.sit(1, bits));
        }
        asks("sit(3, 31)", EdgesTest::rich, x -> x.sit(3, 31), 0);
    }

    @Says(at = "Promise 30", words = "the first DRAWING not yet done in which one is sure to sit; the ROW: all who are in it (bits).")
    private static void firstThatIsKnown() {
        NamesInBags x = packed(3);
        x.pack(1, 5);
        x.drawing(0, 0, 1);
        x.drawing(0, 1, 2);
        x.drawing(0, 1, 2);
        x.drawing(0, 0, 2);
        due("not the first", x.known(), 1);
        row(x, 5);
        x.hold(1, 1);
        x.hold(0x20, 2);
        due("done ones do not count; an empty one has none", x.known(), 3);
        row(x, 5);
    }

    @Says(at = "Promise 30", words = "-2: none; -3 (of some up to that one, one by one); NONE: no DRAWING left.")
    private static void noneIsKnown() {
        stays("none", EdgesTest::unknown, x -> x.known(), -2);
        stays("no drawing left", EdgesTest::allDone, x -> x.known(), -1);
        stays("no drawing at all", () -> packed(2), x -> x.known(), -1);
    }

    @Says(at = "Promise 30", words = "-2: none; -3 (of some up to that one, one by one); NONE: no DRAWING left.")
    private static void noneIsKnownBehindTheLastOne() {
        NamesInBags x = town(0, 0, 1);
        x.pack(0, 3);
        x.renew(0, true);
        x.drawing(0, 0, 2);
        rule(x, "kt");
        x.keep(0);
        x.pack(0, 4);
        x.again(0);
        // One of 0, 1 sits; were there a second one, 2 would be sure.
        due("known()", x.known(), -2);
        x.drawing(0, 0, 2);
        due("now there is", x.known(), 1);
        row(x, 4);
    }

    private static NamesInBags unknown() {
        NamesInBags x = packed(3);
        x.drawing(0, 0, 1);
        x.drawing(0, 1, 1);
        x.drawing(0, 0, 1);
        x.seldom();
        return x;
    }

    @Says(at = "Promise 30", words = "-2: none; -3 (of some up to that one, one by one); NONE: no DRAWING left.")
    private static void knownAheadOfTooMany() {
        NamesInBags x = packed(10);
        x.pack(1, 512);
        x.drawing(0, 0, 3);
        x.drawing(0, 1, 1);
        x.drawing(0, 0, 3);
        due("ahead of too many", x.known(), 1);
        row(x, 512);
        tooMany("too many ahead of what is known", EdgesTest::knownBehindTooMany, y -> y.known());
    }

    private static NamesInBags knownBehindTooMany() {
        NamesInBags x = vast();
        x.pack(1, 512);
        x.drawing(10, 1, 1);
        x.seldom();
        return x;
    }

    // ---- who packs

    private static final int[] NO_BAG = {-1, 2, MIN, MAX};
    /** The rich town's DRAWING 0 is done, but is one. */
    private static final int[] NO_DRAWING = {-1, 4, 6, MIN, MAX};

    private static final String AT_MOST_SIX =
        "Of all ways to pack a BAG from PERSONS told as bits (at most 6 of them; others stay PACKED in it, or not, as they are)";

    @Says(at = "Promise 31", words = AT_MOST_SIX)
    private static void sixToChooseFrom() {
        NamesInBags x = packed(10);
        x.drawing(0, 0, 1);
        x.seldom();
        due("seven", x.best(0, 127, 0, 0, 0), -1);
        due("all", x.best(0, 1023, 0, 0, 0), -1);
        row(x, WHOLE);
        due("six", x.best(0, 63 << 4, 0, 0, 0), 0);
        row(x, 15, WHOLE / 4);
        due("others stay", x.best(0, 1, 9, 0, 0), 0);
        row(x, 1022, WHOLE / 9);
        x.pack(0, 512);
        due("or are not in it", x.best(0, 1, 0, 0, 0), 0);
        row(x, 513, WHOLE / 2);
        due("none to choose", x.best(0, 0, 9, 0, 0), 0);
        row(x, 512, WHOLE);
    }

    @Says(at = "Promise 31", words = "THE CHEST as before all DRAWINGS (done ones, too)")
    private static void bestFromBeforeAll() {
        for (int done = 0; done <= 2; done++) {
            NamesInBags x = packed(3);
            x.drawing(0, 0, 1);
            x.drawing(0, 0, 1);
            for (int d = 0; d < done; d++) {
                x.hold(d, 1);
            }
            due("of a done one", x.best(0, 3, 0, 0, 0), 0);
            row(x, 5, WHOLE / 2);
            due("of the last one", x.best(0, 3, 0, 1, 0), 0);
            row(x, 5, WHOLE / 2);
        }
        asks("nothing else changes", EdgesTest::rich, x -> x.best(0, 31, 2, 0, 0), 0);
        asks("nothing else changes", EdgesTest::rich, x -> x.best(1, 31, 2, 3, 1), 0);
    }

    @Says(at = "Promise 31", words = "the one by which a PERSON's CHANCE to sit in a DRAWING is greatest (what 0), least (1)")
    private static void greatestAndLeast() {
        NamesInBags x = packed(4);
        x.pack(0, 8);
        x.drawing(0, 0, 1);
        due("greatest", x.best(0, 7, 3, 0, 0), 0);
        row(x, 8, WHOLE);
        due("least", x.best(0, 7, 3, 0, 1), 0);
        row(x, 15, WHOLE / 4);
        due("one who can be left out", x.best(0, 15, 3, 0, 1), 0);
        row(x, 0, 0);
    }

    @Says(at = "Promise 31", words = "of equal ones the fewest slips, then the least bits")
    private static void fewestSlipsThenLeastBits() {
        NamesInBags x = packed(5);
        x.pack(0, 8);
        x.drawing(0, 0, 1);
        x.drawing(0, 0, 1);
        due("one slip beside is best, the least", x.best(0, 7, 3, 1, 0), 0);
        row(x, 9, WHOLE / 2);
        due("one who can't: the fewest", x.best(0, 7, 4, 0, 0), 0);
        row(x, 8, 0);
        due("one who can't: the fewest", x.best(0, 7, 4, 0, 1), 0);
        row(x, 8, 0);
        NamesInBags y = renewedOfTwoSeats();
        due("one slip beside is worst, the least", y.best(0, 6, 3, 1, 1), 0);
        row(y, 11, 333333333332L);
    }

    /** With two slips both sit each time; of three one is left for DRAWING 1; of four two are. */
    private static NamesInBags renewedOfTwoSeats() {
        NamesInBags x = packed(5);
        x.pack(0, 9);
        x.renew(0, true);
        x.drawing(0, 0, 2);
        x.drawing(0, 0, 2);
        return x;
    }

    @Says(at = "Promise 31", words = "of equal ones the fewest slips, then the least bits")
    private static void fewestSlipsAheadOfLeastBits() {
        NamesInBags x = town(0, 3, 1, 1, 2);
        x.pack(0, 24);
        x.drawing(0, 0, 2);
        x.drawing(0, 0, 2);
        rule(x, "kb");
        // 3 is left for the second one half the times, if its kin 2 is beside, or both 0 and 1 are.
        due("best", x.best(0, 7, 3, 1, 0), 0);
        row(x, 28, 499999999998L);
        NamesInBags y = town(1, 1, 3, 3, 0);
        y.pack(0, 24);
        y.renew(0, true);
        y.drawing(0, 0, 3);
        y.drawing(0, 0, 2);
        rule(y, "kb");
        // One of the kin 2, 3 is left, or of 0, 1: so the bag is not renewed, and 4 not in it.
        due("worst", y.best(0, 7, 4, 1, 1), 0);
        row(y, 28, 0);
    }

    @Says(at = "Promise 31", words = "0; -3 (of some); NONE: others.")
    private static void bestWithTooManyOfSome() {
        due("fine without 9", lessVast().best(0, 1, 0, 1, 0), 0);
        due("fine with none to choose", lessVast().best(0, 0, 0, 1, 1), 0);
        tooMany("too many with 9 beside", EdgesTest::lessVast, x -> x.best(0, 512, 0, 1, 0));
        tooMany("too many with 9 beside", EdgesTest::lessVast, x -> x.best(0, 512, 0, 1, 1));
        tooMany("too many with 9, fine without", EdgesTest::vast, x -> x.best(0, 512, 0, 1, 0));
    }

    @Says(at = "Promise 31", words = "0; -3 (of some); NONE: others.")
    private static void bestRefused() {
        for (int bad : NO_BAG) {
            refused("bag " + bad, x -> x.best(bad, 1, 0, 1, 0));
            refused("what " + bad, x -> x.best(0, 1, 0, 1, bad));
        }
        for (int bits : NO_BITS) {
            refused("bits " + bits, x -> x.best(0, bits, 0, 1, 0));
        }
        for (int p : NO_PERSON) {
            refused("person " + p, x -> x.best(0, 1, p, 1, 0));
        }
        for (int d : NO_DRAWING) {
            refused("drawing " + d, x -> x.best(0, 1, 0, d, 0));
        }
    }

    @Says(at = "Promise 32", words = "those by which a HOUSE never sits in a DRAWING, and its SEATS may all be filled: how many")
    private static void neverAndAllSeats() {
        NamesInBags x = town(0, 1, 2, 3);
        x.pack(0, 0);
        for (int seats = 1; seats <= 3; seats++) {
            x.drawing(0, 0, seats);
        }
        due("one seat: seven of the eight without 0", x.never(0, 15, 0, 0), 7);
        row(x, 14);
        NamesInBags two = town(0, 1, 2, 3);
        two.pack(0, 0);
        two.drawing(0, 0, 2);
        due("two seats: four of the eight without 0", two.never(0, 15, 0, 0), 4);
        row(two, 14);
        NamesInBags three = town(0, 1, 2, 3);
        three.pack(0, 0);
        three.drawing(0, 0, 3);
        due("three seats: one of the eight without 0", three.never(0, 15, 0, 0), 1);
        row(three, 14);
        due("a house of nobody", three.never(0, 15, 5, 0), 5);
        row(three, 15);
    }

    @Says(at = "Promise 32", words = "the ROW: the one with the most slips (of equal ones the least bits; none without).")
    private static void mostSlipsLeastBits() {
        NamesInBags x = town(0, 0, 1);
        x.pack(0, 4);
        x.debt(2, 10);
        x.drawing(0, 0, 1);
        x.drawing(10, 0, 1);
        rule(x, "db");
        // Of 0 and 1 one at most: it is gone by the second one.
        due("never", x.never(0, 3, 0, 1), 3);
        row(x, 5);
        due("none without: the row has none", x.never(0, 3, 1, 1), 0);
        row(x);
        due("none to choose", x.never(0, 0, 0, 1), 1);
        row(x, 4);
    }

    @Says(at = "Promise 32", words = "-3 (of some); NONE: others.")
    private static void neverWithTooManyOfSome() {
        due("fine without 9", lessVast().never(0, 1, 0, 1), 0);
        tooMany("too many with 9 beside", EdgesTest::lessVast, x -> x.never(0, 512, 0, 1));
        tooMany("too many with 9, fine without", EdgesTest::vast, x -> x.never(0, 512, 0, 1));
    }

    @Says(at = "Promise 32", words = "-3 (of some); NONE: others.")
    private static void neverRefused() {
        for (int bad : NO_BAG) {
            refused("bag " + bad, x -> x.never(bad, 1, 0, 1));
        }
        for (int bits : NO_BITS) {
            refused("bits " + bits, x -> x.never(0, bits, 0, 1));
        }
        for (int house : new int[] {-1, 6, MIN, MAX}) {
            refused("house " + house, x -> x.never(0, 1, house, 1));
        }
        for (int d : NO_DRAWING) {
            refused("drawing " + d, x -> x.never(0, 1, 0, d));
        }
        stays("seven to choose from", EdgesTest::vast, x -> x.never(0, 127, 0, 0), -1);
        due("six to choose from", vast().never(0, 63, 0, 0), 0);
        asks("done ones, too", EdgesTest::rich, x -> x.never(0, 31, 0, 0), rich().never(0, 31, 0, 0));
        due("of a done one", rich().never(0, 31, 0, 0) > 0, true);
    }

    @Says(at = "Promise 33", words = "the greatest less the least of their CHANCES to sit in a DRAWING (0 of one that can't)")
    private static void evenWithOneThatCannot() {
        NamesInBags x = packed(3);
        x.pack(0, 1);
        x.drawing(0, 0, 1);
        due("0 and 1, who is not in it", x.even(0, 0, 3, 0), 0);
        row(x, 1, WHOLE);
        due("1 and 2, who are not in it", x.even(0, 0, 6, 0), 0);
        row(x, 1, 0);
        due("0 alone", x.even(0, 0, 1, 0), 0);
        row(x, 1, 0);
        x.dies(1, 0);
        due("0 and 1, who is dead: torn half the times", x.even(0, 2, 3, 0), 0);
        row(x, 3, WHOLE);
    }

    @Says(at = "Promise 33", words = "of equal ones the most slips, then the least bits")
    private static void evenMostSlipsLeastBits() {
        NamesInBags x = packed(4);
        x.pack(0, 0);
        x.drawing(0, 0, 1);
        due("0 and 1 in it or not, all beside", x.even(0, 15, 3, 0), 0);
        row(x, 15, 0);
        NamesInBags y = renewedOfTwoSeats();
        // 4 is never in it, so the least CHANCE of 3 in DRAWING 1 counts: one slip beside.
        due("1 or 2 beside", y.even(0, 6, 24, 1), 0);
        row(y, 11, 333333333332L);
        NamesInBags kin = town(0, 0, 1);
        kin.pack(0, 2);
        kin.drawing(0, 0, 2);
        rule(kin, "kt");
        due("2 beside, but not its kin 0", kin.even(0, 5, 6, 0), 0);
        row(kin, 6, 0);
    }

    @Says(at = "Promise 33", words = "0; -3 (of some); NONE: others, who has nobody.")
    private static void evenWithTooManyOfSome() {
        due("fine without 9", lessVast().even(0, 1, 3, 1), 0);
        tooMany("too many with 9 beside", EdgesTest::lessVast, x -> x.even(0, 512, 3, 1));
        tooMany("too many with 9, fine without", EdgesTest::vast, x -> x.even(0, 512, 3, 1));
    }

    @Says(at = "Promise 33", words = "0; -3 (of some); NONE: others, who has nobody.")
    private static void evenRefused() {
        refused("nobody", x -> x.even(0, 1, 0, 1));
        for (int bad : NO_BAG) {
            refused("bag " + bad, x -> x.even(bad, 1, 3, 1));
        }
        for (int bits : NO_BITS) {
            refused("bits " + bits, x -> x.even(0, bits, 3, 1));
            refused("who " + bits, x -> x.even(0, 1, bits, 1));
        }
        for (int d : NO_DRAWING) {
            refused("drawing " + d, x -> x.even(0, 1, 3, d));
        }
        stays("seven to choose from", EdgesTest::vast, x -> x.even(0, 127, 1, 0), -1);
        due("six to choose from", vast().even(0, 63, 1, 0), 0);
        asks("done ones, too", EdgesTest::rich, x -> x.even(0, 31, 31, 0), 0);
    }

    /** 0 is in debt, so by a line of d it can't sit. */
    private static NamesInBags forFair() {
        NamesInBags x = packed(3);
        x.debt(0, 5);
        x.drawing(0, 0, 1);
        x.drawing(5, 0, 1);
        x.seldom();
        return x;
    }

    @Says(at = "Promise 34", words = "of equal ones the first: that; the ROW: how unlike.")
    private static void fairTakesTheFirst() {
        NamesInBags x = forFair();
        other(x, 1, "kb");
        due("THE RULE first", x.fair(7, 0), 3);
        row(x, 0);
        rule(x, "db");
        other(x, 2, "");
        due("1 ahead of 2", x.fair(7, 0), 1);
        row(x, 0);
        other(x, 0, "wb");
        due("0 ahead of 1", x.fair(7, 0), 0);
        row(x, 0);
        other(x, 0, "dt");
        other(x, 1, "dl");
        due("the last one", x.fair(7, 0), 2);
        other(x, 2, "dt;kt");
        due("all alike: THE RULE", x.fair(7, 0), 3);
        row(x, WHOLE / 3 + WHOLE / 6);
    }

    @Says(at = "Promise 34", words = "(THE RULE is told as 3.)")
    private static void theRuleIsThree() {
        for (int i = 0; i < 3; i++) {
            NamesInBags x = forFair();
            other(x, i, "db");
            due("THE RULE is fairer", x.fair(7, 0), 3);
            row(x, 0);
        }
    }

    @Says(at = "Promise 34", words = "-4: none of the three was told")
    private static void noneOfTheThreeWasTold() {
        stays("none", EdgesTest::forFair, x -> x.fair(7, 0), -4);
        NamesInBags x = forFair();
        other(x, 0, "x");
        other(x, 3, "kb");
        due("none still", x.fair(7, 0), -4);
        row(x, WHOLE);
        for (int i = 0; i < 3; i++) {
            NamesInBags y = forFair();
            other(y, i, "");
            due("an empty one was told", y.fair(7, 0), 3);
        }
    }

    @Says(at = "Promise 34", words = "-3 (of some)")
    private static void fairWithTooManyOfSome() {
        for (int i = 0; i < 3; i++) {
            int which = i;
            tooMany("by other " + i, () -> oneHouse("kt", which, ""), x -> x.fair(3, 1));
            tooMany("by THE RULE", () -> oneHouse("", which, "kt"), x -> x.fair(3, 1));
        }
        due("fine", oneHouse("kt", 1, "kt;dt").fair(3, 1), 3);
        tooMany("by THE RULE, none told", EdgesTest::vast, x -> x.fair(3, 1));
    }

    /** Ten kin: by kt one sits at a time, by an empty rule there are too many ways. */
    private static NamesInBags oneHouse(String rule, int i, String beside) {
        NamesInBags x = town(0, 0, 0, 0, 0, 0, 0, 0, 0, 0);
        x.drawing(0, 0, 3);
        x.drawing(0, 0, 3);
        rule(x, rule);
        other(x, i, beside);
        x.seldom();
        return x;
    }

    @Says(at = "Promise 34", words = "NONE: others.")
    private static void fairRefused() {
        refused("nobody", x -> x.fair(0, 1));
        for (int who : NO_BITS) {
            refused("who " + who, x -> x.fair(who, 1));
        }
        for (int d : NOT_AHEAD) {
            refused("drawing " + d, x -> x.fair(1, d));
        }
        stays("nobody, none told", EdgesTest::forFair, x -> x.fair(0, 0), -1);
        stays("no such drawing, none told", EdgesTest::forFair, x -> x.fair(7, 2), -1);
        asks("fair(31, 3)", EdgesTest::rich, x -> x.fair(31, 3), rich().fair(31, 3));
    }

    @Says(at = "Promise 34", words = "as even(), from THE CHEST of now")
    private static void fairFromTheChestOfNow() {
        NamesInBags x = forFair();
        other(x, 0, "s1b");
        due("0 and 1 alike", x.fair(3, 1), 3);
        due("hold", x.hold(2, 1), true);
        due("of 0, 1 now", x.fair(7, 1), 3);
        row(x, WHOLE / 2);
    }

    @Says(at = "Promise 35", words = "All told as bits are AWAY on all DAYS: the CHANCE that a SEAT of a DRAWING stays empty then: the ROW: it, and as it is now.")
    private static void warOnAllDays() {
        for (int day : new int[] {0, 500, 999}) {
            NamesInBags x = packed(2);
            x.drawing(day, 0, 1);
            rule(x, "wt");
            due("both", x.war(3, 0), 0);
            row(x, WHOLE, 0);
            due("one", x.war(1, 0), 0);
            row(x, 0, 0);
            due("none", x.war(0, 0), 0);
            row(x, 0, 0);
            x.away(0, day, day);
            x.away(1, day, day);
            due("now, too", x.war(0, 0), 0);
            row(x, WHOLE, WHOLE);
        }
        asks("who is away stays so", EdgesTest::rich, x -> x.war(31, 3), 0);
    }

    @Says(at = "Promise 35", words = "0; -3 (of either); NONE: others.")
    private static void warWithTooManyOfEither() {
        tooMany("as it is now", () -> ruledVast("wb"), x -> x.war(1023, 1));
        tooMany("then", EdgesTest::tornByWar, x -> x.war(511, 1));
        due("fine now", tornByWar().war(0, 1), 0);
    }

    private static NamesInBags ruledVast(String rule) {
        NamesInBags x = vast();
        rule(x, rule);
        return x;
    }

    /** In war nine may be torn ahead of PERSON 9: 512 ways, and seven slips are in BAG 1. */
    private static NamesInBags tornByWar() {
        NamesInBags x = packed(10);
        x.pack(1, 127);
        x.drawing(0, 0, 1);
        x.drawing(0, 1, 1);
        rule(x, "wt");
        x.seldom();
        return x;
    }

    @Says(at = "Promise 35", words = "0; -3 (of either); NONE: others.")
    private static void warRefused() {
        for (int bits : NO_BITS) {
            refused("bits " + bits, x -> x.war(bits, 1));
        }
        for (int d : NOT_AHEAD) {
            refused("drawing " + d, x -> x.war(1, d));
        }
    }

    // ---- what was

    @Says(at = "Promise 36", words = "(bits, each time a DRAWING more; to 6): how many were told.")
    private static void sixListed() {
        NamesInBags x = packed(3);
        for (int n = 1; n <= 6; n++) {
            due("list", x.list(n), n);
            due("count(6)", x.count(6), n);
        }
        due("though there is no drawing", x.count(1), 0);
        due("all", packed(10).list(1023), 1);
        due("none", new NamesInBags().list(0), 1);
    }

    @Says(at = "Promise 36", words = "Refused: others, 6.")
    private static void listRefused() {
        for (int bits : NO_BITS) {
            refused("list(" + bits + ")", x -> x.list(bits));
        }
        stays("the seventh", EdgesTest::sixAreListed, x -> x.list(0), -1);
    }

    private static NamesInBags sixAreListed() {
        NamesInBags x = sixDrawings();
        for (int n = 2; n < 6; n++) {
            x.list(0);
        }
        due("six", x.count(6), 6);
        return x;
    }

    @Says(at = "Promise 37", words = "What was listed is forgotten: how many.")
    private static void wipeTellsHowMany() {
        NamesInBags x = packed(2);
        x.drawing(0, 0, 1);
        for (int n = 0; n <= 6; n++) {
            for (int k = 0; k < n; k++) {
                x.list(1);
            }
            due("wipe()", x.wipe(), n);
            due("count(6)", x.count(6), 0);
        }
        due("list", x.list(2), 1);
        due("seldom()", x.seldom(), 0);
        row(x, WHOLE / 2);
    }

    @Says(at = "Promise 38", words = "how many let what was listed be (THE CHEST as before all DRAWINGS, DRAWINGS 0, 1, .. as listed); the ROW: slips that are in all of them, in some (bits).")
    private static void oldWays() {
        NamesInBags x = packed(4);
        x.pack(0, 8);
        x.drawing(0, 0, 1);
        x.drawing(0, 0, 3);
        due("nothing listed: all ways", x.old(0, 7), 8);
        row(x, 8, 15);
        due("none to choose", x.old(0, 0), 1);
        row(x, 8, 8);
        due("0 and 2 to choose", x.old(0, 5), 4);
        row(x, 8, 13);
        x.list(1);
        due("0 sat", x.old(0, 7), 4);
        row(x, 9, 15);
        due("0 sat, 0 and 2 to choose", x.old(0, 5), 2);
        row(x, 9, 13);
        due("without 0", x.old(0, 6), 0);
        row(x, 0, 0);
        x.list(14);
        due("then all others: just one way", x.old(0, 7), 1);
        row(x, 15, 15);
        x.hold(3, 1);
        due("done ones are no matter", x.old(0, 7), 1);
        x.wipe();
        x.list(2);
        x.list(9);
        due("in this order", x.old(0, 7), 1);
        row(x, 11, 11);
        asks("nothing else changes", EdgesTest::rich, y -> y.old(0, 31), rich().old(0, 31));
    }

    @Says(at = "Promise 38", words = "-3 (of some); NONE: others, more listed than DRAWINGS.")
    private static void oldWithTooManyOfSome() {
        tooMany("both", EdgesTest::tornOnes, x -> x.old(0, 1));
        tooMany("too many with all, fine without 0 to 5", EdgesTest::tornOnes, x -> x.old(0, 63));
        NamesInBags x = tornOnes();
        x.pack(0, 1023 & ~63);
        due("fine", x.old(0, 1), 2);
        row(x, 1023 & ~63, 1023 & ~62);
        due("not too many as none goes on", noneGoesOn().old(0, 1), 0);
    }

    /** As tornOnes(), but what was listed for the first one can't be. */
    private static NamesInBags noneGoesOn() {
        NamesInBags x = tornOnes();
        x.wipe();
        x.list(1);
        x.list(0);
        return x;
    }

    @Says(at = "Promise 38", words = "-3 (of some); NONE: others, more listed than DRAWINGS.")
    private static void oldRefused() {
        for (int bad : NO_BAG) {
            refused("bag " + bad, x -> x.old(bad, 1));
        }
        for (int bits : NO_BITS) {
            refused("bits " + bits, x -> x.old(0, bits));
        }
        stays("seven to choose from", EdgesTest::vast, x -> x.old(0, 127), -1);
        due("six to choose from", vast().old(0, 63), 64);
        stays("more listed", EdgesTest::moreListed, x -> x.old(0, 1), -1);
        NamesInBags just = moreListed();
        just.drawing(0, 0, 1);
        due("as many as drawings", just.old(0, 1) >= 0, true);
    }

    private static NamesInBags moreListed() {
        NamesInBags x = packed(3);
        x.drawing(0, 0, 1);
        x.drawing(0, 0, 1);
        x.each(0);
        for (int n = 0; n < 3; n++) {
            x.list(1 << n);
        }
        return x;
    }

    @Says(at = "Promise 39", words = "The CHANCE of what was listed, from THE CHEST as before all DRAWINGS: the ROW: it (of each DRAWING those THE CHESTS go on with which just these sat).")
    private static void seldomGoesOnWithThoseAlone() {
        NamesInBags x = packed(4);
        x.drawing(0, 0, 2);
        x.drawing(0, 0, 1);
        due("nothing listed", x.seldom(), 0);
        row(x, WHOLE);
        x.list(3);
        due("two of four", x.seldom(), 0);
        row(x, 2 * 83333333333L);
        x.list(4);
        due("then one of two", x.seldom(), 0);
        row(x, 83333333333L);
        x.hold(0x32, 2);
        due("done ones are no matter", x.seldom(), 0);
        row(x, 83333333333L);
        x.wipe();
        x.list(1);
        due("just these", x.seldom(), 0);
        row(x, 0);
        x.wipe();
        x.list(7);
        due("not more", x.seldom(), 0);
        row(x, 0);
        asks("nothing else changes", EdgesTest::rich, y -> y.seldom(), 0);
    }

    @Says(at = "Promise 39", words = "The CHANCE of what was listed, from THE CHEST as before all DRAWINGS: the ROW: it (of each DRAWING those THE CHESTS go on with which just these sat).")
    private static void seldomFromBothBags() {
        NamesInBags x = packed(4);
        x.pack(1, 3);
        x.drawing(0, 1, 1);
        x.drawing(0, 0, 1);
        x.list(2);
        x.list(8);
        due("one of two, then one of four", x.seldom(), 0);
        row(x, WHOLE / 8);
        x.run();
        x.run();
        x.renew(0, true);
        x.renew(1, true);
        due("the same behind all", x.seldom(), 0);
        row(x, WHOLE / 8);
    }

    @Says(at = "Promise 39", words = "0; -3; NONE: more listed than DRAWINGS.")
    private static void seldomRefused() {
        stays("more listed", EdgesTest::moreListed, x -> x.seldom(), -1);
        NamesInBags just = moreListed();
        just.drawing(0, 0, 1);
        due("as many as drawings", just.seldom(), 0);
        row(just, 166666666666L);
        tooMany("too many", EdgesTest::tornOnes, x -> x.seldom());
        NamesInBags none = noneGoesOn();
        due("none goes on, so there are none", none.seldom(), 0);
        row(none, 0);
    }

    // ---- kept

    @Says(at = "Promise 40", words = "R becomes v: what it was.")
    private static void seedOfAnyInt() {
        NamesInBags x = new NamesInBags();
        int was = 1;
        for (int v : new int[] {0, -1, MIN, MAX, 1, 1103515245}) {
            due("seed(" + v + ")", x.seed(v), was);
            was = v;
        }
    }

    @Says(at = "Promise 41", words = "THE CHEST and R are kept under a number 0 .. 2: true. Refused: others.")
    private static void keepUnderThreeNumbers() {
        NamesInBags x = packed(4);
        for (int d = 0; d < 3; d++) {
            x.drawing(0, 0, 1);
        }
        for (int i = 0; i <= 2; i++) {
            x.seed(100 + i);
            due("keep(" + i + ")", x.keep(i), true);
            x.hold(i, 1);
        }
        for (int i = 2; i >= 0; i--) {
            due("again(" + i + ")", x.again(i), true);
            due("R", x.seed(0), 100 + i);
            due("done", x.count(2), i);
            due("the bag", x.bag(0, 0), 15 & -(1 << i));
        }
        due("kept anew", x.keep(2), true);
        x.run();
        due("again(2)", x.again(2), true);
        due("the new one", x.count(2), 0);
        due("R of the new one", x.seed(0), 0);
    }

    @Says(at = "Promise 41", words = "THE CHEST and R are kept under a number 0 .. 2: true. Refused: others.")
    private static void keepRefused() {
        for (int i : new int[] {-1, 3, 32, 34, MIN, MAX}) {
            denied("keep(" + i + ")", x -> x.keep(i));
        }
    }

    @Says(at = "Promise 42", words = "They are as they were kept under a number. Refused: nothing kept.")
    private static void againRefused() {
        denied("nothing kept under 1", x -> x.again(1));
        for (int i : new int[] {-1, 3, 32, 34, -30, MIN, MAX}) {
            denied("again(" + i + ")", x -> x.again(i));
        }
        for (int i = 0; i <= 2; i++) {
            due("nothing kept", packed(1).again(i), false);
        }
    }

    @Says(at = "Promise 42", words = "They are as they were kept under a number. Refused: nothing kept.")
    private static void againAsTheyWere() {
        NamesInBags x = rich();
        x.hold(0x421, 3);
        x.run();
        x.pack(1, 0);
        x.pack(0, 0);
        x.seed(3);
        for (int k = 0; k < 2; k++) {
            due("again(2)", x.again(2), true);
            due("done", x.count(2), 1);
            due("in 0", x.bag(0, 0), 10);
            due("aside from 0", x.bag(0, 1), 1);
            due("in 1", x.bag(1, 0), 22);
            due("2 sat", x.sat(2), 0);
            due("1 did not", x.sat(1), -2);
            due("R", x.seed(8), -99);
            due("packed as it is now", x.count(7) | x.count(8), 0);
            x.begin();
        }
        due("again(0)", x.again(0), true);
        due("done", x.count(2), 0);
        due("in 0", x.bag(0, 0), 31);
        due("R", x.seed(8), 4711);
    }

    @Says(at = "Promise 43", words = "NONE for another what.")
    private static void countRefused() {
        for (int what : new int[] {-1, 10, MIN, MAX}) {
            refused("count(" + what + ")", x -> x.count(what));
        }
    }

    @Says(at = "Promise 43", words = "What 0: PERSONS, 1: DRAWINGS, 2: those done, 3: LINES, 4: signs of THE TEXT, 5: numbers of the ROW, 6: listed, 7, 8: what BAGS 0, 1 are PACKED with, 9: RULES beside that were told (bits).")
    private static void countOfEach() {
        int[] want = {5, 4, 1, 4, 4, 5, 2, 31, 22, 5};
        NamesInBags x = rich();
        for (int what = 0; what <= 9; what++) {
            due("count(" + what + ")", x.count(what), want[what]);
        }
    }

    @Says(at = "Promise 44", words = "Number i of the ROW. NoSuchElementException: none such.")
    private static void rowHasAnEnd() {
        NamesInBags x = new NamesInBags();
        for (int i : new int[] {-1, 0, 1, 12, 13, MIN, MAX}) {
            due("row(" + i + ") of none", numberAt(x, i), THROWS);
        }
        x.seldom();
        due("row(0)", numberAt(x, 0), WHOLE);
        for (int i : new int[] {-1, 1, 12, 13, MIN, MAX}) {
            due("row(" + i + ") of one", numberAt(x, i), THROWS);
        }
        NamesInBags y = packed(1);
        y.drawing(0, 0, 1);
        y.each(0);
        due("never", y.never(0, 0, 0, 0), 0);
        due("a row with no number", numberAt(y, 0), THROWS);
    }

    @Says(at = "Promise 44", words = "Number i of the ROW. NoSuchElementException: none such.")
    private static void theLongestRow() {
        // Three sit, and all ten slips are drawn: the seven who are in debt ahead of the last who is not.
        NamesInBags x = packed(10);
        for (int p = 0; p < 7; p++) {
            x.debt(p, 1);
        }
        x.drawing(0, 0, 3);
        rule(x, "db");
        for (int r = 0; r < 400 && x.count(5) != 13; r++) {
            x = r % 100 == 99 ? likeThat() : x;
            x.begin();
            x.seed(r * 1234567);
            due("run()", x.run(), 3);
        }
        due("three and ten", x.count(5), 13);
        due("the last number", numberAt(x, 12), numberAt(x, 2));
        due("one more", numberAt(x, 13), THROWS);
    }

    private static NamesInBags likeThat() {
        NamesInBags x = packed(10);
        for (int p = 0; p < 7; p++) {
            x.debt(p, 1);
        }
        x.drawing(0, 0, 3);
        rule(x, "db");
        return x;
    }

    // ---- the run of them

    private static int place(String at) {
        return at.equals("Terms") ? 0 : Integer.parseInt(at.substring("Promise ".length()));
    }

    private static String squeezed(String text) {
        return text.replaceAll("\\s+", " ");
    }

    /** The document's parts: 0 is Terms, the others the promises; null where there is no document. */
    private static String[] document() throws Exception {
        Path path = Path.of("../shared/DOC.md");
        if (!Files.exists(path)) {
            return null;
        }
        String[] parts = new String[45];
        for (String part : Files.readString(path).split("\n## ")) {
            if (part.startsWith("Terms")) {
                parts[0] = squeezed(part);
            } else if (part.startsWith("Promise ")) {
                parts[place(part.substring(0, part.indexOf(':')))] = squeezed(part);
            }
        }
        return parts;
    }

    private static void run(Method test) throws Exception {
        int before = asked;
        try {
            test.invoke(null);
        } catch (InvocationTargetException e) {
            wrong++;
            System.out.println(now + " threw " + e.getCause());
        }
        if (asked == before) {
            wrong++;
            System.out.println(now + " asks nothing");
        }
    }

    public static void main(String[] args) throws Exception {
        String[] parts = document();
        List<Method> tests = new ArrayList<>();
        for (Method m : EdgesTest.class.getDeclaredMethods()) {
            if (m.isAnnotationPresent(Says.class)) {
                tests.add(m);
            }
        }
        tests.sort(Comparator.comparing((Method m) -> place(m.getAnnotation(Says.class).at())).thenComparing(Method::getName));
        int[] told = new int[45];
        for (Method m : tests) {
            Says says = m.getAnnotation(Says.class);
            now = says.at() + ", " + m.getName();
            told[place(says.at())]++;
            if (parts != null) {
                due("the document says it", parts[place(says.at())].contains(says.words()), true);
            }
            run(m);
        }
        for (int i = 0; i < told.length; i++) {
            now = "part " + i;
            due("has a test", told[i] > 0, true);
        }
        System.out.println(tests.size() + " tests of sentences, " + asked + " answers");
        System.out.println(wrong == 0 ? "all answers are as due" : wrong + " answers are not as due");
        if (wrong != 0) {
            System.exit(1);
        }
    }
}
