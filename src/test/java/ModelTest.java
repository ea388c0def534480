import java.util.ArrayList;
import java.util.Arrays;
import java.util.LinkedHashMap;
import java.util.List;
import java.util.Map;
import java.util.NoSuchElementException;
import java.util.Random;
import java.util.TreeSet;

/** Runs of calls by chance, on the class and on a slow model of the document that is written apart from it. */
public final class ModelTest {
    private static final long WHOLE = 1000000000000L;

    /** Thrown by the model where the document says -3. */
    private static final class TooMany extends RuntimeException {
        private static final long serialVersionUID = 1L;
    }

    /** Answers NONE. */
    private static final class Refused extends RuntimeException {
        private static final long serialVersionUID = 1L;
    }

    private static final class Person {
        int house, debt, from = 1, to = 0, dead = 1000;
    }

    private static final class Drawing {
        int day, bag, seats;
    }

    /** One state of things: bags, what was laid aside, who sat when, and the table of the drawing. */
    private static final class State {
        List<TreeSet<Integer>> in = List.of(new TreeSet<>(), new TreeSet<>());
        List<TreeSet<Integer>> aside = List.of(new TreeSet<>(), new TreeSet<>());
        int[] sat = new int[10];
        TreeSet<Integer> by = new TreeSet<>();
        TreeSet<Integer> sitting = new TreeSet<>();
        int next = 0;

        State() {
            Arrays.fill(sat, -2);
        }

        State copy() {
            State s = new State();
            for (int b = 0; b < 2; b++) {
                s.in.get(b).addAll(in.get(b));
                s.aside.get(b).addAll(aside.get(b));
            }
            s.sat = sat.clone();
            s.by.addAll(by);
            s.sitting.addAll(sitting);
            s.next = next;
            return s;
        }

        String key() {
            return "" + in + aside + Arrays.toString(sat) + by + sitting;
        }
    }

    private static final class Weighted {
        State state;
        long chance;
    }

    private static final class Bunch {
        final Map<String, Weighted> all = new LinkedHashMap<>();

        void add(State s, long chance) {
            Weighted w = all.get(s.key());
            if (w == null) {
                w = new Weighted();
                w.state = s;
                all.put(s.key(), w);
            }
            w.chance += chance;
        }

        void limit() {
            if (all.size() > 3000) {
                throw new TooMany();
            }
        }
    }

    private static final class Model {
        List<Person> persons = new ArrayList<>();
        List<Drawing> drawings = new ArrayList<>();
        int[] packed = new int[2];
        boolean[] renewed = new boolean[2];
        StringBuilder text = new StringBuilder();
        String rule = "";
        String[] others = new String[3];
        State chest = new State();
        int r = 1;
        State[] kept = new State[3];
        int[] keptR = new int[3];
        List<Integer> listed = new ArrayList<>();
        List<Long> row = new ArrayList<>();
        int absent = 0;
        long drawn, vain;

        void need(boolean good) {
            if (!good) {
                throw new Refused();
            }
        }

        boolean bits(int bits) {
            return bits >= 0 && bits < 1 << persons.size();
        }

        boolean isPerson(int p) {
            return p >= 0 && p < persons.size();
        }

        boolean left() {
            return chest.next < drawings.size();
        }

        boolean ahead(int d) {
            return d >= chest.next && d < drawings.size();
        }

        static TreeSet<Integer> set(int bits) {
            TreeSet<Integer> s = new TreeSet<>();
            for (int p = 0; p < 10; p++) {
                if ((bits & 1 << p) != 0) {
                    s.add(p);
                }
            }
            return s;
        }

        static int bits(Iterable<Integer> set) {
            int b = 0;
            for (int p : set) {
                b |= 1 << p;
            }
            return b;
        }

        static String[] lines(String rule) {
            return rule.isEmpty() ? new String[0] : rule.split(";", -1);
        }

        int barring(State s, int d, int p) {
            Drawing dr = drawings.get(d);
            Person who = persons.get(p);
            String[] lines = lines(rule);
            for (int i = 0; i < lines.length; i++) {
                char c = lines[i].charAt(0);
                boolean bars;
                if (c == 'k') {
                    bars = s.sitting.stream().anyMatch(q -> persons.get(q).house == who.house);
                } else if (c == 's') {
                    int back = lines[i].charAt(1) - '0';
                    bars = s.sat[p] >= 0 && d - s.sat[p] <= back;
                } else if (c == 'd') {
                    bars = dr.day < who.debt;
                } else {
                    bars = who.from <= dr.day && dr.day <= who.to || (absent & 1 << p) != 0;
                }
                if (bars) {
                    return i;
                }
            }
            return -2;
        }

        State opened(State from, int d) {
            State s = from.copy();
            s.sitting.clear();
            int b = drawings.get(d).bag;
            if (s.in.get(b).isEmpty() && renewed[b]) {
                s.in.get(b).addAll(set(packed[b]));
                s.aside.get(b).clear();
            } else {
                for (int p : from.aside.get(b)) {
                    if (barring(s, d, p) == -2) {
                        s.aside.get(b).remove(p);
                        s.in.get(b).add(p);
                    }
                }
            }
            return s;
        }

        boolean over(State s, int d) {
            return s.in.get(drawings.get(d).bag).isEmpty() || s.sitting.size() == drawings.get(d).seats;
        }

        State drawn(State from, int d, int p) {
            State s = from.copy();
            int b = drawings.get(d).bag;
            s.in.get(b).remove(p);
            if (persons.get(p).dead <= drawings.get(d).day) {
                return s;
            }
            int line = barring(from, d, p);
            if (line == -2) {
                s.sitting.add(p);
                s.sat[p] = d;
                return s;
            }
            String l = lines(rule)[line];
            if (l.endsWith("b")) {
                s.by.add(p);
            } else if (l.endsWith("l")) {
                s.aside.get(b).add(p);
            }
            return s;
        }

        State closed(State from, int d) {
            State s = from.copy();
            s.in.get(drawings.get(d).bag).addAll(s.by);
            s.by.clear();
            s.next = d + 1;
            return s;
        }

        Bunch through(Bunch before, int d) {
            Bunch now = new Bunch();
            for (Weighted w : before.all.values()) {
                now.add(opened(w.state, d), w.chance);
            }
            Bunch ends = new Bunch();
            drawn = 0;
            vain = 0;
            while (!now.all.isEmpty()) {
                Bunch behind = new Bunch();
                for (Weighted w : now.all.values()) {
                    if (over(w.state, d)) {
                        ends.add(closed(w.state, d), w.chance);
                        continue;
                    }
                    drawn += w.chance;
                    TreeSet<Integer> there = w.state.in.get(drawings.get(d).bag);
                    for (int p : there) {
                        State s = drawn(w.state, d, p);
                        long share = w.chance / there.size();
                        behind.add(s, share);
                        if (!s.sitting.contains(p)) {
                            vain += share;
                        }
                    }
                }
                behind.limit();
                ends.limit();
                now = behind;
            }
            return ends;
        }

        Bunch from(State s) {
            Bunch b = new Bunch();
            b.add(s, WHOLE);
            return b;
        }

        Bunch walk(State s, int d) {
            Bunch b = from(s);
            for (int i = s.next; i <= d; i++) {
                b = through(b, i);
            }
            return b;
        }

        State fresh() {
            State s = new State();
            s.in.get(0).addAll(set(packed[0]));
            s.in.get(1).addAll(set(packed[1]));
            return s;
        }

        long chanceOf(Bunch b, java.util.function.Predicate<State> that) {
            long sum = 0;
            for (Weighted w : b.all.values()) {
                if (that.test(w.state)) {
                    sum += w.chance;
                }
            }
            return sum;
        }

        long of(Bunch b, int p) {
            return chanceOf(b, s -> s.sitting.contains(p));
        }

        long unlike(Bunch b, int who) {
            return set(who).stream().mapToLong(p -> of(b, p)).max().getAsLong()
                - set(who).stream().mapToLong(p -> of(b, p)).min().getAsLong();
        }

        void tell(long... numbers) {
            row.clear();
            for (long n : numbers) {
                row.add(n);
            }
        }

        List<Integer> packings(int bag, int bits) {
            List<Integer> all = new ArrayList<>();
            for (int b = 0; b < 1024; b++) {
                if ((b & ~bits) == (packed[bag] & ~bits)) {
                    all.add(b);
                }
            }
            return all;
        }

        boolean packs(int bag, int bits) {
            return (bag == 0 || bag == 1) && bits(bits) && Integer.bitCount(bits) <= 6;
        }

        Bunch asListed() {
            Bunch b = from(fresh());
            for (int d = 0; d < listed.size(); d++) {
                Bunch e = through(b, d);
                b = new Bunch();
                for (Weighted w : e.all.values()) {
                    if (bits(w.state.sitting) == listed.get(d)) {
                        b.add(w.state, w.chance);
                    }
                }
            }
            return b;
        }

        int parse() {
            String t = text.toString();
            text.setLength(0);
            // What can stand: the longest beginning of some rule, found sign by sign.
            int p = 0;
            while (p < t.length() && p < 20 && canGoOn(t.substring(0, p + 1))) {
                p++;
            }
            if (p < t.length() && p < 20) {
                return -1 - p;
            }
            if (t.length() > 20) {
                return -21;
            }
            if (!t.matches("|(([kdw]|s[1-6])[btl])(;([kdw]|s[1-6])[btl])*")) {
                return -1 - t.length();
            }
            parsed = t;
            return lines(t).length;
        }

        String parsed;

        static boolean canGoOn(String t) {
            return t.matches("(([kdw]|s[1-6])[btl];)*(|[kdw]|s|s[1-6]|([kdw]|s[1-6])[btl])");
        }

        long call(String name, long[] a) {
            try {
                return answer(name, a);
            } catch (TooMany e) {
                return -3;
            } catch (Refused e) {
                return -1;
            }
        }

        private int x(long[] a, int i) {
            return (int) a[i];
        }

        long answer(String name, long[] a) {
            switch (name) {
                case "person": {
                    need(x(a, 0) >= 0 && x(a, 0) <= 5 && persons.size() < 10);
                    Person p = new Person();
                    p.house = x(a, 0);
                    persons.add(p);
                    return persons.size() - 1;
                }
                case "debt": {
                    need(isPerson(x(a, 0)) && x(a, 1) >= 0 && x(a, 1) <= 999);
                    int was = persons.get(x(a, 0)).debt;
                    persons.get(x(a, 0)).debt = x(a, 1);
                    return was;
                }
                case "away": {
                    if (!isPerson(x(a, 0)) || x(a, 1) < 0 || x(a, 1) > 999 || x(a, 2) < 0 || x(a, 2) > 999) {
                        return 0;
                    }
                    persons.get(x(a, 0)).from = x(a, 1);
                    persons.get(x(a, 0)).to = x(a, 2);
                    return 1;
                }
                case "dies": {
                    need(isPerson(x(a, 0)) && x(a, 1) >= 0 && x(a, 1) <= 1000);
                    int was = persons.get(x(a, 0)).dead;
                    persons.get(x(a, 0)).dead = x(a, 1);
                    return was;
                }
                case "sheet":
                    return sheet(x(a, 0), x(a, 1), x(a, 2), x(a, 3));
                case "pack": {
                    need((x(a, 0) == 0 || x(a, 0) == 1) && bits(x(a, 1)));
                    int was = packed[x(a, 0)];
                    packed[x(a, 0)] = x(a, 1);
                    chest.in.get(x(a, 0)).clear();
                    chest.in.get(x(a, 0)).addAll(set(x(a, 1)));
                    chest.aside.get(x(a, 0)).clear();
                    return was;
                }
                case "renew":
                    if (x(a, 0) != 0 && x(a, 0) != 1) {
                        return 0;
                    }
                    renewed[x(a, 0)] = a[1] != 0;
                    return 1;
                case "drawing": {
                    need(x(a, 0) >= 0 && x(a, 0) <= 999 && (x(a, 1) == 0 || x(a, 1) == 1));
                    need(x(a, 2) >= 1 && x(a, 2) <= 3 && drawings.size() < 6);
                    need(drawings.isEmpty() || x(a, 0) >= drawings.get(drawings.size() - 1).day);
                    Drawing d = new Drawing();
                    d.day = x(a, 0);
                    d.bag = x(a, 1);
                    d.seats = x(a, 2);
                    drawings.add(d);
                    return drawings.size() - 1;
                }
                case "sign":
                    need(text.length() + 4 <= 40);
                    for (byte b : java.nio.ByteBuffer.allocate(4).putInt(x(a, 0)).array()) {
                        text.append((char) (b & 0xff));
                    }
                    return text.length();
                case "end":
                    if (x(a, 0) < 0 || x(a, 0) > text.length()) {
                        return 0;
                    }
                    text.setLength(x(a, 0));
                    return 1;
                case "rule": {
                    int n = parse();
                    if (n >= 0) {
                        rule = parsed;
                    }
                    return n;
                }
                case "other": {
                    if (x(a, 0) < 0 || x(a, 0) > 2) {
                        text.setLength(0);
                        return -100;
                    }
                    int n = parse();
                    if (n >= 0) {
                        others[x(a, 0)] = parsed;
                    }
                    return n;
                }
                default:
                    return answerOfDrawings(name, a);
            }
        }

        int sheet(int kind, int n, int f, int step) {
            need(kind >= 0 && kind <= 3 && n <= 10);
            if (kind < 3 && n < 0) {
                return -2;
            }
            int sum = 0;
            for (int i = 0; i < persons.size(); i++) {
                int v = 0;
                if (kind < 3 && i < n) {
                    v = f + i * step;
                    v = kind == 0 ? (byte) v : kind == 1 ? (short) v : v;
                    v = v < 0 ? 0 : v > 999 ? 999 : v;
                }
                persons.get(i).debt = v;
                sum += v;
            }
            return kind == 3 ? -3 : sum;
        }

        int judged(long slips, int n, boolean holds) {
            need(left() && n >= 0 && n <= 10);
            for (int i = 0; i < n; i++) {
                need((slips >> 4 * i & 15) <= 9);
            }
            int d = chest.next;
            State s = opened(chest, d);
            int i = 0;
            while (i < n && !over(s, d) && s.in.get(drawings.get(d).bag).contains((int) (slips >> 4 * i & 15))) {
                s = drawn(s, d, (int) (slips >> 4 * i & 15));
                i++;
            }
            if (holds) {
                need(i == n && over(s, d));
                chest = closed(s, d);
            }
            return i;
        }

        long answerOfDrawings(String name, long[] a) {
            switch (name) {
                case "bars": {
                    need(isPerson(x(a, 0)) && left());
                    State s = chest.copy();
                    s.sitting.clear();
                    boolean dead = persons.get(x(a, 0)).dead <= drawings.get(chest.next).day;
                    return dead ? -3 : barring(s, chest.next, x(a, 0));
                }
                case "run": {
                    need(left());
                    int d = chest.next;
                    State s = opened(chest, d);
                    List<Long> seated = new ArrayList<>();
                    List<Long> slips = new ArrayList<>();
                    while (!over(s, d)) {
                        List<Integer> there = new ArrayList<>(s.in.get(drawings.get(d).bag));
                        r = r * 1103515245 + 12345;
                        int p = there.get((int) (Integer.toUnsignedLong(r) / 65536 % there.size()));
                        s = drawn(s, d, p);
                        slips.add((long) p);
                        if (s.sitting.contains(p)) {
                            seated.add((long) p);
                        }
                    }
                    chest = closed(s, d);
                    row.clear();
                    row.addAll(seated);
                    row.addAll(slips);
                    return seated.size();
                }
                case "judge":
                    return judged(a[0], x(a, 1), false);
                case "hold":
                    try {
                        judged(a[0], x(a, 1), true);
                        return 1;
                    } catch (Refused e) {
                        return 0;
                    }
                case "begin": {
                    int done = chest.next;
                    chest = fresh();
                    return done;
                }
                case "bag":
                    need((x(a, 0) == 0 || x(a, 0) == 1) && (x(a, 1) == 0 || x(a, 1) == 1));
                    return bits(x(a, 1) == 0 ? chest.in.get(x(a, 0)) : chest.aside.get(x(a, 0)));
                case "sat":
                    need(isPerson(x(a, 0)));
                    return chest.sat[x(a, 0)];
                default:
                    return answerOfChances(name, a);
            }
        }

        long answerOfChances(String name, long[] a) {
            switch (name) {
                case "chance":
                    need(isPerson(x(a, 0)) && ahead(x(a, 1)));
                    tell(of(walk(chest, x(a, 1)), x(a, 0)));
                    return 0;
                case "each": {
                    need(ahead(x(a, 0)));
                    Bunch b = walk(chest, x(a, 0));
                    row.clear();
                    for (int p = 0; p < persons.size(); p++) {
                        row.add(of(b, p));
                    }
                    return 0;
                }
                case "ever": {
                    need(isPerson(x(a, 0)) && left());
                    int first = chest.next;
                    tell(chanceOf(walk(chest, drawings.size() - 1), s -> s.sat[x(a, 0)] >= first));
                    return 0;
                }
                case "empty": {
                    need(ahead(x(a, 0)));
                    Bunch b = walk(chest, x(a, 0));
                    int seats = drawings.get(x(a, 0)).seats;
                    tell(chanceOf(b, s -> s.sitting.size() < seats));
                    for (int n = 0; n <= seats; n++) {
                        int m = n;
                        row.add(chanceOf(b, s -> s.sitting.size() == m));
                    }
                    return 0;
                }
                case "vain":
                    need(ahead(x(a, 0)));
                    walk(chest, x(a, 0));
                    tell(drawn, vain);
                    return 0;
                case "house": {
                    need(x(a, 0) >= 0 && x(a, 0) <= 5 && ahead(x(a, 1)));
                    Bunch b = walk(chest, x(a, 1));
                    long sum = 0;
                    for (int p = 0; p < persons.size(); p++) {
                        sum += persons.get(p).house == x(a, 0) ? of(b, p) : 0;
                    }
                    tell(chanceOf(b, s -> houseSits(s, x(a, 0))), sum);
                    return 0;
                }
                case "ways":
                    need(ahead(x(a, 0)));
                    return walk(chest, x(a, 0)).all.size();
                case "sure": {
                    need(ahead(x(a, 0)) && (x(a, 1) == 0 || x(a, 1) == 1));
                    return sitters(walk(chest, x(a, 0)), x(a, 1));
                }
                case "sit": {
                    need(ahead(x(a, 0)) && bits(x(a, 1)));
                    Bunch b = walk(chest, x(a, 0));
                    tell(chanceOf(b, s -> bits(s.sitting) == x(a, 1)));
                    return b.all.values().stream().anyMatch(w -> bits(w.state.sitting) == x(a, 1)) ? 1 : 0;
                }
                case "known": {
                    need(left());
                    for (int d = chest.next; d < drawings.size(); d++) {
                        int sure = sitters(walk(chest, d), 0);
                        if (sure != 0) {
                            tell(sure);
                            return d;
                        }
                    }
                    return -2;
                }
                default:
                    return answerOfPacks(name, a);
            }
        }

        boolean houseSits(State s, int house) {
            return s.sitting.stream().anyMatch(p -> persons.get(p).house == house);
        }

        int sitters(Bunch b, int what) {
            int all = 1023;
            int some = 0;
            for (Weighted w : b.all.values()) {
                all &= bits(w.state.sitting);
                some |= bits(w.state.sitting);
            }
            return what == 0 ? all : some;
        }

        /** Goes through all packings; puts the town back as it was, whatever comes. */
        interface Look {
            void at(int packing, Bunch ends);
        }

        void eachPacking(int bag, int bits, int d, Look look) {
            int was = packed[bag];
            try {
                for (int packing : packings(bag, bits)) {
                    packed[bag] = packing;
                    look.at(packing, d < 0 ? asListed() : walk(fresh(), d));
                }
            } finally {
                packed[bag] = was;
            }
        }

        long answerOfPacks(String name, long[] a) {
            List<long[]> found = new ArrayList<>();
            switch (name) {
                case "best":
                    need(packs(x(a, 0), x(a, 1)) && isPerson(x(a, 2)) && x(a, 3) >= 0 && x(a, 3) < drawings.size());
                    need(x(a, 4) == 0 || x(a, 4) == 1);
                    eachPacking(x(a, 0), x(a, 1), x(a, 3), (k, b) -> {
                        long c = of(b, x(a, 2));
                        found.add(new long[] {x(a, 4) == 0 ? -c : c, Integer.bitCount(k), k, c});
                    });
                    found.sort(Arrays::compare);
                    tell(found.get(0)[2], found.get(0)[3]);
                    return 0;
                case "never":
                    need(packs(x(a, 0), x(a, 1)) && x(a, 2) >= 0 && x(a, 2) <= 5);
                    need(x(a, 3) >= 0 && x(a, 3) < drawings.size());
                    eachPacking(x(a, 0), x(a, 1), x(a, 3), (k, b) -> {
                        boolean no = b.all.values().stream().noneMatch(w -> houseSits(w.state, x(a, 2)));
                        int seats = drawings.get(x(a, 3)).seats;
                        if (no && b.all.values().stream().anyMatch(w -> w.state.sitting.size() == seats)) {
                            found.add(new long[] {-Integer.bitCount(k), k});
                        }
                    });
                    found.sort(Arrays::compare);
                    row.clear();
                    if (!found.isEmpty()) {
                        row.add(found.get(0)[1]);
                    }
                    return found.size();
                case "even":
                    need(packs(x(a, 0), x(a, 1)) && bits(x(a, 2)) && x(a, 2) != 0);
                    need(x(a, 3) >= 0 && x(a, 3) < drawings.size());
                    eachPacking(x(a, 0), x(a, 1), x(a, 3), (k, b) ->
                        found.add(new long[] {unlike(b, x(a, 2)), -Integer.bitCount(k), k}));
                    found.sort(Arrays::compare);
                    tell(found.get(0)[2], found.get(0)[0]);
                    return 0;
                case "fair":
                    return fair(x(a, 0), x(a, 1));
                case "war":
                    return war(x(a, 0), x(a, 1));
                case "old": {
                    need(packs(x(a, 0), x(a, 1)) && listed.size() <= drawings.size());
                    eachPacking(x(a, 0), x(a, 1), -1, (k, b) -> {
                        if (!b.all.isEmpty()) {
                            found.add(new long[] {k});
                        }
                    });
                    long all = found.isEmpty() ? 0 : 1023;
                    long some = 0;
                    for (long[] f : found) {
                        all &= f[0];
                        some |= f[0];
                    }
                    tell(all, some);
                    return found.size();
                }
                default:
                    return answerOfKept(name, a);
            }
        }

        long fair(int who, int d) {
            need(bits(who) && who != 0 && ahead(d));
            String was = rule;
            try {
                long least = unlike(walk(chest, d), who);
                int which = 3;
                boolean any = false;
                for (int i = 0; i < 3; i++) {
                    if (others[i] != null) {
                        any = true;
                        rule = others[i];
                        long u = unlike(walk(chest, d), who);
                        if (u < least) {
                            least = u;
                            which = i;
                        }
                    }
                }
                if (!any) {
                    return -4;
                }
                tell(least);
                return which;
            } finally {
                rule = was;
            }
        }

        long war(int bits, int d) {
            need(bits(bits) && ahead(d));
            int seats = drawings.get(d).seats;
            try {
                absent = bits;
                long then = chanceOf(walk(chest, d), s -> s.sitting.size() < seats);
                absent = 0;
                tell(then, chanceOf(walk(chest, d), s -> s.sitting.size() < seats));
                return 0;
            } finally {
                absent = 0;
            }
        }

        long answerOfKept(String name, long[] a) {
            switch (name) {
                case "list":
                    need(bits(x(a, 0)) && listed.size() < 6);
                    listed.add(x(a, 0));
                    return listed.size();
                case "wipe": {
                    int n = listed.size();
                    listed.clear();
                    return n;
                }
                case "seldom":
                    need(listed.size() <= drawings.size());
                    tell(chanceOf(asListed(), s -> true));
                    return 0;
                case "seed": {
                    int was = r;
                    r = x(a, 0);
                    return was;
                }
                case "keep":
                    if (x(a, 0) < 0 || x(a, 0) > 2) {
                        return 0;
                    }
                    kept[x(a, 0)] = chest.copy();
                    keptR[x(a, 0)] = r;
                    return 1;
                case "again":
                    if (x(a, 0) < 0 || x(a, 0) > 2 || kept[x(a, 0)] == null) {
                        return 0;
                    }
                    chest = kept[x(a, 0)].copy();
                    r = keptR[x(a, 0)];
                    return 1;
                case "count": {
                    int told = 0;
                    for (int i = 0; i < 3; i++) {
                        told |= others[i] == null ? 0 : 1 << i;
                    }
                    int[] all = {persons.size(), drawings.size(), chest.next, lines(rule).length, text.length(),
                        row.size(), listed.size(), packed[0], packed[1], told};
                    need(x(a, 0) >= 0 && x(a, 0) < all.length);
                    return all[x(a, 0)];
                }
                default:
                    throw new IllegalArgumentException(name);
            }
        }
    }

    private static long onClass(NamesInBags n, String name, long[] a) {
        int p = a.length > 0 ? (int) a[0] : 0;
        int q = a.length > 1 ? (int) a[1] : 0;
        int r = a.length > 2 ? (int) a[2] : 0;
        int s = a.length > 3 ? (int) a[3] : 0;
        switch (name) {
            case "person": return n.person(p);
            case "debt": return n.debt(p, q);
            case "away": return n.away(p, q, r) ? 1 : 0;
            case "dies": return n.dies(p, q);
            case "sheet": return n.sheet(p, q, r, s);
            case "pack": return n.pack(p, q);
            case "renew": return n.renew(p, q != 0) ? 1 : 0;
            case "drawing": return n.drawing(p, q, r);
            case "sign": return n.sign(p);
            case "end": return n.end(p) ? 1 : 0;
            case "rule": return n.rule();
            case "other": return n.other(p);
            case "bars": return n.bars(p);
            case "run": return n.run();
            case "judge": return n.judge(a[0], q);
            case "hold": return n.hold(a[0], q) ? 1 : 0;
            case "begin": return n.begin();
            case "bag": return n.bag(p, q);
            case "sat": return n.sat(p);
            case "chance": return n.chance(p, q);
            case "each": return n.each(p);
            case "ever": return n.ever(p);
            case "empty": return n.empty(p);
            case "vain": return n.vain(p);
            case "house": return n.house(p, q);
            case "ways": return n.ways(p);
            case "sure": return n.sure(p, q);
            case "sit": return n.sit(p, q);
            case "known": return n.known();
            case "best": return n.best(p, q, r, s, (int) a[4]);
            case "never": return n.never(p, q, r, s);
            case "even": return n.even(p, q, r, s);
            case "fair": return n.fair(p, q);
            case "war": return n.war(p, q);
            case "list": return n.list(p);
            case "wipe": return n.wipe();
            case "old": return n.old(p, q);
            case "seldom": return n.seldom();
            case "seed": return n.seed(p);
            case "keep": return n.keep(p) ? 1 : 0;
            case "again": return n.again(p) ? 1 : 0;
            case "count": return n.count(p);
            default: throw new IllegalArgumentException(name);
        }
    }

    private static int wrong = 0;
    private static final int[] seen = new int[4];

    /** One object and its model, with the calls made so far, for the report. */
    private static final class Pair {
        final NamesInBags real = new NamesInBags();
        final Model model = new Model();
        final StringBuilder story = new StringBuilder();
        final String title;
        boolean broken = false;

        Pair(String title) {
            this.title = title;
        }

        void call(String name, long... a) {
            if (broken) {
                return;
            }
            long want = model.call(name, a);
            long got = onClass(real, name, a);
            seen[want == -1 ? 0 : want == -3 ? 1 : 2]++;
            story.append(name).append(Arrays.toString(a)).append(" = ").append(got).append('\n');
            if (got != want || !rowAlike() || !chestAlike()) {
                broken = true;
                wrong++;
                System.out.println(title + ":\n" + story + "due is " + want + ", row " + model.row);
            }
        }

        boolean rowAlike() {
            for (int i = 0; i < model.row.size(); i++) {
                if (i >= real.count(5) || real.row(i) != model.row.get(i)) {
                    return false;
                }
            }
            try {
                real.row(model.row.size());
                return false;
            } catch (NoSuchElementException e) {
                return real.count(5) == model.row.size();
            }
        }

        boolean chestAlike() {
            for (int b = 0; b < 2; b++) {
                if (real.bag(b, 0) != Model.bits(model.chest.in.get(b))
                    || real.bag(b, 1) != Model.bits(model.chest.aside.get(b))) {
                    return false;
                }
            }
            for (int p = 0; p < model.persons.size(); p++) {
                if (real.sat(p) != model.chest.sat[p]) {
                    return false;
                }
            }
            return real.count(2) == model.chest.next;
        }

        void text(String t) {
            call("end", 0);
            String padded = t + "    ";
            for (int i = 0; i < t.length(); i += 4) {
                int v = 0;
                for (int k = 0; k < 4; k++) {
                    v = v << 8 | padded.charAt(i + k);
                }
                call("sign", v);
            }
            call("end", t.length());
        }
    }

    private static String someRule(Random g, int most) {
        StringBuilder b = new StringBuilder();
        int n = g.nextInt(most + 1);
        for (int i = 0; i < n; i++) {
            String kind = List.of("k", "s" + (1 + g.nextInt(6)), "d", "w").get(g.nextInt(4));
            b.append(i > 0 ? ";" : "").append(kind).append("btl".charAt(g.nextInt(3)));
        }
        return b.length() > 20 ? b.substring(0, 20) : b.toString();
    }

    /** Mostly a good number, now and then one beside. */
    private static int about(Random g, int bound) {
        int k = g.nextInt(40);
        if (k == 0) {
            return -1 - g.nextInt(3);
        }
        if (k == 1) {
            return bound + g.nextInt(3);
        }
        if (k == 2 && g.nextInt(4) == 0) {
            return g.nextBoolean() ? Integer.MIN_VALUE : Integer.MAX_VALUE;
        }
        return bound > 0 ? g.nextInt(bound) : 0;
    }

    private static int someBits(Random g, int persons) {
        if (g.nextInt(40) == 0) {
            return g.nextInt();
        }
        int bits = g.nextInt(1 << persons);
        return g.nextInt(3) == 0 ? bits & g.nextInt(1 << persons) : bits;
    }

    private static int freeBits(Random g, int persons, int most) {
        int bits = someBits(g, persons);
        while (Integer.bitCount(bits) > most && g.nextInt(30) > 0) {
            bits &= bits - 1;
        }
        return bits;
    }

    private static void found(Pair x, Random g, int persons, int drawings) {
        int houses = 1 + g.nextInt(6);
        for (int p = 0; p < persons; p++) {
            x.call("person", g.nextInt(houses));
        }
        for (int p = 0; p < persons; p++) {
            if (g.nextInt(3) == 0) {
                x.call("debt", p, g.nextInt(60));
            }
            if (g.nextInt(3) == 0) {
                x.call("away", p, g.nextInt(60), g.nextInt(80));
            }
            if (g.nextInt(6) == 0) {
                x.call("dies", p, g.nextInt(80));
            }
        }
        x.call("pack", 0, (1 << persons) - 1 & (g.nextInt(1 << persons) | g.nextInt(1 << persons)));
        x.call("pack", 1, g.nextInt(1 << persons));
        x.call("renew", 0, g.nextInt(2));
        x.call("renew", 1, g.nextInt(2));
        int day = 0;
        for (int d = 0; d < drawings; d++) {
            day += g.nextInt(15);
            x.call("drawing", day, g.nextInt(4) == 0 ? 1 : 0, 1 + g.nextInt(3));
        }
        x.text(someRule(g, 4));
        x.call("rule");
    }

    private static long someSlips(Random g, Pair x) {
        // Mostly an order of what may be drawn, so that some lists can be held.
        long slips = 0;
        List<Integer> order = new ArrayList<>();
        for (int p = 0; p < 10; p++) {
            order.add(p);
        }
        java.util.Collections.shuffle(order, g);
        if (x.model.left()) {
            State s = x.model.opened(x.model.chest, x.model.chest.next);
            TreeSet<Integer> there = s.in.get(x.model.drawings.get(x.model.chest.next).bag);
            order.sort((p, q) -> Boolean.compare(there.contains(q), there.contains(p)));
        }
        for (int i = 0; i < 10; i++) {
            slips |= (long) order.get(i) << 4 * i;
        }
        return g.nextInt(10) == 0 ? slips ^ g.nextLong() : slips;
    }

    private static void oneCall(Pair x, Random g, int freeMost) {
        int persons = x.model.persons.size();
        int drawings = x.model.drawings.size();
        int d = about(g, drawings);
        if (g.nextInt(2) == 0 && x.model.left()) {
            d = x.model.chest.next + g.nextInt(drawings - x.model.chest.next);
        }
        int p = about(g, persons);
        switch (g.nextInt(44)) {
            case 0: x.call("person", about(g, 6)); break;
            case 1: x.call("debt", p, about(g, 100)); break;
            case 2: x.call("away", p, about(g, 60), about(g, 80)); break;
            case 3: x.call("dies", p, g.nextInt(5) == 0 ? 998 + g.nextInt(5) : about(g, 90)); break;
            case 4: x.call("sheet", about(g, 4), about(g, 11), g.nextInt(10) == 0 ? g.nextInt() : g.nextInt(400) - 100,
                g.nextInt(10) == 0 ? g.nextInt() : g.nextInt(200) - 100); break;
            case 5: x.call("pack", about(g, 2), someBits(g, persons)); break;
            case 6: x.call("renew", about(g, 2), g.nextInt(2)); break;
            case 7: x.call("drawing", about(g, 70), about(g, 2), 1 + about(g, 3)); break;
            case 8: x.call("sign", g.nextInt()); break;
            case 9: x.call("end", about(g, 41)); break;
            case 10: x.text(someRule(g, 7)); x.call("rule"); break;
            case 11: x.text(someRule(g, 3)); x.call("other", about(g, 3)); break;
            case 12: x.text(spoilt(g)); x.call(g.nextBoolean() ? "rule" : "other", 1); break;
            case 13: x.call("bars", p); break;
            case 14: case 15: x.call("run"); break;
            case 16: x.call("judge", someSlips(g, x), about(g, 11)); break;
            case 17: {
                long slips = someSlips(g, x);
                for (int n = 0; n <= 10; n++) {
                    x.call("hold", slips, n);
                }
                break;
            }
            case 18: x.call("begin"); break;
            case 19: x.call("bag", about(g, 2), about(g, 2)); break;
            case 20: x.call("sat", p); break;
            case 21: x.call("chance", p, d); break;
            case 22: x.call("each", d); break;
            case 23: x.call("ever", p); break;
            case 24: x.call("empty", d); break;
            case 25: x.call("vain", d); break;
            case 26: x.call("house", about(g, 6), d); break;
            case 27: x.call("ways", d); break;
            case 28: x.call("sure", d, about(g, 2)); break;
            case 29: x.call("sit", d, freeBits(g, persons, 3)); break;
            case 30: x.call("known"); break;
            case 31: x.call("best", about(g, 2), freeBits(g, persons, freeMost), p, d, about(g, 2)); break;
            case 32: x.call("never", about(g, 2), freeBits(g, persons, freeMost), about(g, 6), d); break;
            case 33: x.call("even", about(g, 2), freeBits(g, persons, freeMost), someBits(g, persons), d); break;
            case 34: x.call("fair", someBits(g, persons), d); break;
            case 35: x.call("war", someBits(g, persons), d); break;
            case 36: x.call("list", freeBits(g, persons, 2)); break;
            case 37: x.call("wipe"); break;
            case 38: x.call("old", about(g, 2), freeBits(g, persons, freeMost)); break;
            case 39: x.call("seldom"); break;
            case 40: x.call("seed", g.nextInt()); break;
            case 41: x.call("keep", about(g, 3)); break;
            case 42: x.call("again", about(g, 3)); break;
            default: x.call("count", about(g, 10)); break;
        }
    }

    private static String spoilt(Random g) {
        StringBuilder b = new StringBuilder(someRule(g, 7));
        int k = g.nextInt(3);
        if (k == 0) {
            b.append(";kb;dl;wt;s3b");
        } else if (b.length() > 0 && k == 1) {
            b.setCharAt(g.nextInt(b.length()), "kdws123456btl;x07".charAt(g.nextInt(17)));
        } else if (b.length() > 0) {
            b.setLength(g.nextInt(b.length()));
        }
        return b.length() > 40 ? b.substring(0, 40) : b.toString();
    }

    private static void runs(String title, int from, int runs, int least, int drawings, int calls, int freeMost) {
        // From least persons to three more; of the great runs some have too many unlike ones.
        for (int i = from; i < from + runs && wrong < 3; i++) {
            Random g = new Random(i);
            Pair x = new Pair(title + " " + i);
            found(x, g, least + g.nextInt(4), g.nextInt(drawings + 1));
            if (least > 6 && g.nextBoolean()) {
                x.call("pack", 0, (1 << x.model.persons.size()) - 1);
                x.call("pack", 1, (1 << x.model.persons.size()) - 1);
            }
            for (int k = 0; k < calls; k++) {
                oneCall(x, g, freeMost);
            }
        }
    }

    public static void main(String[] args) {
        int times = args.length > 0 ? Integer.parseInt(args[0]) : 1;
        runs("small run", 1, 400 * times, 1, 4, 60, 4);
        runs("middle run", 100000, 60 * times, 3, 6, 40, 3);
        runs("great run", 200000, 30 * times, 7, 6, 60, 2);
        System.out.println(seen[0] + " answers NONE, " + seen[1] + " answers -3, " + seen[2] + " others");
        System.out.println(wrong == 0 ? "all answers are as due" : wrong + " runs are not as due");
        if (wrong != 0) {
            System.exit(1);
        }
    }
}
