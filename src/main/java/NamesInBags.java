import java.util.NoSuchElementException;

/** Slips of persons, drawn from bags for seats; ../shared/DOC.md has its promises. */
public final class NamesInBags {
    public static final int NONE = -1;

    private static final int TOO_MANY = -3;
    private static final int NONE_TOLD = -4;
    private static final int NO_SUCH_RULE = -100;
    private static final int NOTHING = -2;

    private static final int MOST_PERSONS = 10;
    private static final int MOST_HOUSES = 6;
    private static final int MOST_DRAWINGS = 6;
    private static final int MOST_SEATS = 3;
    private static final int BAGS = 2;
    private static final int DAYS = 1000;
    private static final int MOST_SIGNS = 40;
    private static final int MOST_RULE_SIGNS = 20;
    private static final int MOST_LINES = 7;
    private static final int OTHERS = 3;
    private static final int THE_RULE = 3;
    private static final int KEPT = 3;
    private static final int MOST_NUMBERS = MOST_PERSONS + MOST_SEATS;
    private static final int MOST_FREE_SLIPS = 6;
    private static final int MOST_UNLIKE = 3000;
    private static final long WHOLE = 1000000000000L;

    // Where a CHEST has what: each part has a bit for each PERSON; ASIDE is followed by that of BAG 1.
    private static final int ASIDE = 2;
    private static final int PUT_BY = 4;
    private static final int SITTING = 5;
    private static final int ASIDE_AT = MOST_PERSONS * ASIDE;
    private static final int PUT_BY_AT = MOST_PERSONS * PUT_BY;
    private static final int SITTING_AT = MOST_PERSONS * SITTING;
    private static final int ALL_BITS = (1 << MOST_PERSONS) - 1;

    private final Town town = new Town();
    private final Text text = new Text();
    private final Rule rule = new Rule();
    private final Rule[] others = new Rule[OTHERS];
    private int othersTold;
    private final Chest chest = new Chest();
    private final Chest supposed = new Chest();
    private final Course course = new Course(town);
    private final Walk walk = new Walk();
    private final Row told = new Row();
    private final int[] drawnSlips = new int[MOST_PERSONS];
    private int random = 1;
    private final Chest[] keptChests = new Chest[KEPT];
    private final int[] keptRandoms = new int[KEPT];
    private int keptBits;
    private final int[] listed = new int[MOST_DRAWINGS];
    private int listedCount;

    public NamesInBags() {
        for (int i = 0; i < OTHERS; i++) {
            others[i] = new Rule();
        }
        for (int i = 0; i < KEPT; i++) {
            keptChests[i] = new Chest();
        }
    }

    // ---- the town

    public int person(int house) {
        if (house < 0 || house >= MOST_HOUSES || town.persons >= MOST_PERSONS) {
            return NONE;
        }
        return town.addPerson(house);
    }

    public int debt(int person, int day) {
        if (!town.hasPerson(person) || !isDay(day)) {
            return NONE;
        }
        int before = town.debts[person];
        town.debts[person] = day;
        return before;
    }

    public boolean away(int person, int from, int to) {
        if (!town.hasPerson(person) || !isDay(from) || !isDay(to)) {
            return false;
        }
        town.awayFrom[person] = from;
        town.awayTo[person] = to;
        return true;
    }

    public int dies(int person, int day) {
        if (!town.hasPerson(person) || day < 0 || day > DAYS) {
            return NONE;
        }
        int before = town.deaths[person];
        town.deaths[person] = day;
        return before;
    }

    public int sheet(int kind, int n, int f, int step) {
        if (kind < 0 || kind > 3 || n > MOST_PERSONS) {
            return NONE;
        }
        if (kind == 3) {
            town.clearDebts();
            return -3;
        }
        if (n < 0) {
            return -2;
        }
        town.clearDebts();
        int sum = 0;
        int entry = f;
        for (int p = 0; p < town.persons && p < n; p++) {
            town.debts[p] = dayOnSheet(kind, entry);
            sum += town.debts[p];
            entry += step;
        }
        return sum;
    }

    public int pack(int bag, int bits) {
        if (!isBag(bag) || !town.hasAll(bits)) {
            return NONE;
        }
        int before = town.packed[bag];
        town.packed[bag] = bits;
        chest.setPart(bag, bits);
        chest.setPart(ASIDE + bag, 0);
        return before;
    }

    public boolean renew(int bag, boolean is) {
        if (!isBag(bag)) {
            return false;
        }
        town.renewed[bag] = is;
        return true;
    }

    public int drawing(int day, int bag, int seats) {
        if (!isDay(day) || !isBag(bag) || seats < 1 || seats > MOST_SEATS) {
            return NONE;
        }
        if (town.drawings >= MOST_DRAWINGS || day < town.lastDay()) {
            return NONE;
        }
        return town.addDrawing(day, bag, seats);
    }

    public int sign(int v) {
        return text.add(v) ? text.length : NONE;
    }

    public boolean end(int n) {
        return text.cut(n);
    }

    public int rule() {
        return readInto(rule);
    }

    public int other(int i) {
        if (i < 0 || i >= OTHERS) {
            text.cut(0);
            return NO_SUCH_RULE;
        }
        int lines = readInto(others[i]);
        if (lines >= 0) {
            othersTold |= 1 << i;
        }
        return lines;
    }

    // ---- drawings

    public int bars(int person) {
        if (!town.hasPerson(person) || !isDrawingLeft()) {
            return NONE;
        }
        readyNow();
        if (((course.dead >> person) & 1) != 0) {
            return -3;
        }
        int line = course.lineAgainst(chest.sats, person);
        return line < 0 ? NOTHING : line;
    }

    public int run() {
        if (!isDrawingLeft()) {
            return NONE;
        }
        readyNow();
        chest.open(course);
        told.clear();
        int drawn = 0;
        while (drawn < MOST_PERSONS && !chest.isOver(course)) {
            int p = drawSlip(chest.part(course.bag));
            course.foretell(chest.part(course.bag), chest.part(SITTING), chest.sats);
            drawnSlips[drawn] = p;
            drawn++;
            if (chest.takeOut(course, p)) {
                told.tell(p);
            }
        }
        int sitting = told.size;
        for (int i = 0; i < drawn; i++) {
            told.tell(drawnSlips[i]);
        }
        chest.close(course);
        chest.next++;
        return sitting;
    }

    public int judge(long slips, int n) {
        if (!isDrawingLeft() || !areSlips(slips, n)) {
            return NONE;
        }
        return follow(slips, n);
    }

    public boolean hold(long slips, int n) {
        if (!isDrawingLeft() || !areSlips(slips, n)) {
            return false;
        }
        if (follow(slips, n) != n || !supposed.isOver(course)) {
            return false;
        }
        supposed.close(course);
        chest.copy(supposed);
        chest.next++;
        return true;
    }

    public int begin() {
        int done = chest.next;
        chest.startAnew(town.packed[0], town.packed[1]);
        return done;
    }

    public int bag(int bag, int what) {
        if (!isBag(bag) || what < 0 || what > 1) {
            return NONE;
        }
        return chest.part(what == 0 ? bag : ASIDE + bag);
    }

    public int sat(int person) {
        if (!town.hasPerson(person)) {
            return NONE;
        }
        int last = lastIn(chest.sats, person);
        return last < 0 ? NOTHING : last;
    }

    // ---- chances

    public int chance(int person, int drawing) {
        if (!town.hasPerson(person) || !isAhead(drawing)) {
            return NONE;
        }
        if (!walkBy(rule, 0, drawing)) {
            return TOO_MANY;
        }
        told.tellOne(walk.chanceOfAny(1 << person));
        return 0;
    }

    public int each(int drawing) {
        if (!isAhead(drawing)) {
            return NONE;
        }
        if (!walkBy(rule, 0, drawing)) {
            return TOO_MANY;
        }
        told.clear();
        for (int p = 0; p < town.persons; p++) {
            told.tell(walk.chanceOfAny(1 << p));
        }
        return 0;
    }

    public int ever(int person) {
        if (!town.hasPerson(person) || !isDrawingLeft()) {
            return NONE;
        }
        if (!walkBy(rule, 0, town.drawings - 1)) {
            return TOO_MANY;
        }
        told.tellOne(walk.chanceSince(person, chest.next));
        return 0;
    }

    public int empty(int drawing) {
        if (!isAhead(drawing)) {
            return NONE;
        }
        if (!walkBy(rule, 0, drawing)) {
            return TOO_MANY;
        }
        int seats = town.seats[drawing];
        told.tellOne(walk.chanceOfLess(seats));
        for (int n = 0; n <= seats; n++) {
            told.tell(walk.chanceOfFilled(n));
        }
        return 0;
    }

    public int vain(int drawing) {
        if (!isAhead(drawing)) {
            return NONE;
        }
        if (!walkBy(rule, 0, drawing)) {
            return TOO_MANY;
        }
        told.tellOne(walk.draws);
        told.tell(walk.drawsInVain);
        return 0;
    }

    public int house(int house, int drawing) {
        if (house < 0 || house >= MOST_HOUSES || !isAhead(drawing)) {
            return NONE;
        }
        if (!walkBy(rule, 0, drawing)) {
            return TOO_MANY;
        }
        int kin = town.ofHouse(house);
        long seats = 0;
        for (int p = 0; p < town.persons; p++) {
            if (((kin >> p) & 1) != 0) {
                seats += walk.chanceOfAny(1 << p);
            }
        }
        told.tellOne(walk.chanceOfAny(kin));
        told.tell(seats);
        return 0;
    }

    public int ways(int drawing) {
        if (!isAhead(drawing)) {
            return NONE;
        }
        return walkBy(rule, 0, drawing) ? walk.ends.size : TOO_MANY;
    }

    // ---- what is sure

    public int sure(int drawing, int what) {
        if (!isAhead(drawing) || what < 0 || what > 1) {
            return NONE;
        }
        if (!walkBy(rule, 0, drawing)) {
            return TOO_MANY;
        }
        return what == 0 ? walk.whoAlwaysSit() : walk.whoMaySit();
    }

    public int sit(int drawing, int bits) {
        if (!isAhead(drawing) || !town.hasAll(bits)) {
            return NONE;
        }
        if (!walkBy(rule, 0, drawing)) {
            return TOO_MANY;
        }
        walk.goOnWith(bits);
        told.tellOne(walk.chanceOfAll());
        return walk.ends.size > 0 ? 1 : 0;
    }

    public int known() {
        if (!isDrawingLeft()) {
            return NONE;
        }
        course.set(rule, town.packed[0], town.packed[1], 0);
        walk.start(chest);
        for (int d = chest.next; d < town.drawings; d++) {
            if (!walk.pass(course, d)) {
                return TOO_MANY;
            }
            int sure = walk.whoAlwaysSit();
            if (sure != 0) {
                told.tellOne(sure);
                return d;
            }
        }
        return NOTHING;
    }

    // ---- who packs

    public int best(int bag, int bits, int person, int drawing, int what) {
        if (!canPack(bag, bits) || !town.hasPerson(person) || !town.hasDrawing(drawing)) {
            return NONE;
        }
        if (what < 0 || what > 1) {
            return NONE;
        }
        int bestPack = -1;
        long bestChance = 0;
        for (int way = fullestWay(bits); way >= 0; way--) {
            int packed = packing(bag, bits, way);
            if (!walkPacked(bag, packed, drawing)) {
                return TOO_MANY;
            }
            long chance = walk.chanceOfAny(1 << person);
            boolean better = what == 0 ? chance > bestChance : chance < bestChance;
            boolean fewer = chance == bestChance && Integer.bitCount(packed) <= Integer.bitCount(bestPack);
            if (bestPack < 0 || better || fewer) {
                bestPack = packed;
                bestChance = chance;
            }
        }
        told.tellOne(bestPack);
        told.tell(bestChance);
        return 0;
    }

    public int never(int bag, int bits, int house, int drawing) {
        if (!canPack(bag, bits) || house < 0 || house >= MOST_HOUSES || !town.hasDrawing(drawing)) {
            return NONE;
        }
        int kin = town.ofHouse(house);
        int seats = town.seats[drawing];
        int found = 0;
        int most = -1;
        for (int way = fullestWay(bits); way >= 0; way--) {
            int packed = packing(bag, bits, way);
            if (!walkPacked(bag, packed, drawing)) {
                return TOO_MANY;
            }
            if ((walk.whoMaySit() & kin) == 0 && walk.mayFill(seats)) {
                found++;
                if (most < 0 || Integer.bitCount(packed) >= Integer.bitCount(most)) {
                    most = packed;
                }
            }
        }
        told.clear();
        if (found > 0) {
            told.tell(most);
        }
        return found;
    }

    public int even(int bag, int bits, int who, int drawing) {
        if (!canPack(bag, bits) || !town.hasAll(who) || who == 0 || !town.hasDrawing(drawing)) {
            return NONE;
        }
        int bestPack = -1;
        long least = 0;
        for (int way = fullestWay(bits); way >= 0; way--) {
            int packed = packing(bag, bits, way);
            if (!walkPacked(bag, packed, drawing)) {
                return TOO_MANY;
            }
            long unlike = walk.howUnlike(who);
            boolean more = unlike == least && Integer.bitCount(packed) >= Integer.bitCount(bestPack);
            if (bestPack < 0 || unlike < least || more) {
                bestPack = packed;
                least = unlike;
            }
        }
        told.tellOne(bestPack);
        told.tell(least);
        return 0;
    }

    public int fair(int who, int drawing) {
        if (!town.hasAll(who) || who == 0 || !isAhead(drawing)) {
            return NONE;
        }
        // -3 comes ahead of all but NONE, so THE RULE is gone through though none may be told.
        if (!walkBy(rule, 0, drawing)) {
            return TOO_MANY;
        }
        if (othersTold == 0) {
            return NONE_TOLD;
        }
        int fairest = THE_RULE;
        long least = walk.howUnlike(who);
        for (int i = 0; i < OTHERS; i++) {
            if (((othersTold >> i) & 1) == 0) {
                continue;
            }
            if (!walkBy(others[i], 0, drawing)) {
                return TOO_MANY;
            }
            long unlike = walk.howUnlike(who);
            if (unlike < least) {
                least = unlike;
                fairest = i;
            }
        }
        told.tellOne(least);
        return fairest;
    }

    public int war(int bits, int drawing) {
        if (!town.hasAll(bits) || !isAhead(drawing)) {
            return NONE;
        }
        int seats = town.seats[drawing];
        if (!walkBy(rule, bits, drawing)) {
            return TOO_MANY;
        }
        long atWar = walk.chanceOfLess(seats);
        if (!walkBy(rule, 0, drawing)) {
            return TOO_MANY;
        }
        told.tellOne(atWar);
        told.tell(walk.chanceOfLess(seats));
        return 0;
    }

    // ---- what was

    public int list(int bits) {
        if (!town.hasAll(bits) || listedCount >= MOST_DRAWINGS) {
            return NONE;
        }
        listed[listedCount] = bits;
        listedCount++;
        return listedCount;
    }

    public int wipe() {
        int before = listedCount;
        listedCount = 0;
        return before;
    }

    public int old(int bag, int bits) {
        if (!canPack(bag, bits) || listedCount > town.drawings) {
            return NONE;
        }
        int found = 0;
        int inAll = ALL_BITS;
        int inSome = 0;
        for (int way = fullestWay(bits); way >= 0; way--) {
            int packed = packing(bag, bits, way);
            supposePacked(bag, packed);
            if (!walkAsListed()) {
                return TOO_MANY;
            }
            if (walk.ends.size > 0) {
                found++;
                inAll &= packed;
                inSome |= packed;
            }
        }
        told.tellOne(found > 0 ? inAll : 0);
        told.tell(inSome);
        return found;
    }

    public int seldom() {
        if (listedCount > town.drawings) {
            return NONE;
        }
        supposePacked(0, town.packed[0]);
        if (!walkAsListed()) {
            return TOO_MANY;
        }
        told.tellOne(walk.chanceOfAll());
        return 0;
    }

    // ---- kept

    public int seed(int v) {
        int before = random;
        random = v;
        return before;
    }

    public boolean keep(int i) {
        if (i < 0 || i >= KEPT) {
            return false;
        }
        keptChests[i].copy(chest);
        keptRandoms[i] = random;
        keptBits |= 1 << i;
        return true;
    }

    public boolean again(int i) {
        if (i < 0 || i >= KEPT || ((keptBits >> i) & 1) == 0) {
            return false;
        }
        chest.copy(keptChests[i]);
        random = keptRandoms[i];
        return true;
    }

    public int count(int what) {
        switch (what) {
            case 0: return town.persons;
            case 1: return town.drawings;
            case 2: return chest.next;
            case 3: return rule.lines;
            case 4: return text.length;
            case 5: return told.size;
            case 6: return listedCount;
            case 7: return town.packed[0];
            case 8: return town.packed[1];
            case 9: return othersTold;
            default: return NONE;
        }
    }

    public long row(int i) throws NoSuchElementException {
        if (i < 0 || i >= told.size) {
            throw new NoSuchElementException();
        }
        return told.numbers[i];
    }

    // ---- what the calls share

    private static boolean isDay(int day) {
        return day >= 0 && day < DAYS;
    }

    private static boolean isBag(int bag) {
        return bag >= 0 && bag < BAGS;
    }

    private boolean isDrawingLeft() {
        return chest.next < town.drawings;
    }

    private boolean isAhead(int drawing) {
        return drawing >= chest.next && drawing < town.drawings;
    }

    private boolean canPack(int bag, int bits) {
        return isBag(bag) && town.hasAll(bits) && Integer.bitCount(bits) <= MOST_FREE_SLIPS;
    }

    /**
     * The last of the ways to pack a BAG from PERSONS told as bits, which go from 0 to it. They are gone through from it
     * down, as too many unlike ones show soonest there; so the later of two with as many slips has the least bits.
     */
    private static int fullestWay(int bits) {
        return (1 << Integer.bitCount(bits)) - 1;
    }

    /** What a BAG is PACKED with in a way: its bits tell, from the lowest on, which of the free PERSONS are in. */
    private int packing(int bag, int bits, int way) {
        int packed = town.packed[bag] & ~bits;
        int rest = way;
        for (int p = 0; p < MOST_PERSONS; p++) {
            if (((bits >> p) & 1) != 0) {
                packed |= (rest & 1) << p;
                rest >>= 1;
            }
        }
        return packed;
    }

    /** The DRAWING in which a PERSON sat last; -1: none. */
    private static int lastIn(int sats, int p) {
        return ((sats >>> (3 * p)) & 7) - 1;
    }

    private static int dayOnSheet(int kind, int entry) {
        int day = entry;
        if (kind == 0) {
            day = (byte) entry;
        } else if (kind == 1) {
            day = (short) entry;
        }
        return Math.max(0, Math.min(DAYS - 1, day));
    }

    private int readInto(Rule into) {
        int fault = text.firstFault();
        if (fault < 0) {
            into.read(text);
        }
        text.cut(0);
        return fault < 0 ? into.lines : -1 - fault;
    }

    private void readyNow() {
        course.set(rule, town.packed[0], town.packed[1], 0);
        course.ready(chest.next);
    }

    /** A DRAW: the bit in bits, the least first, that R tells. */
    private int drawSlip(int bits) {
        random = random * 1103515245 + 12345;
        int slips = Integer.bitCount(bits);
        int skip = slips > 0 ? (random >>> 16) % slips : 0;
        for (int p = 0; p < MOST_PERSONS; p++) {
            if (((bits >> p) & 1) != 0) {
                if (skip == 0) {
                    return p;
                }
                skip--;
            }
        }
        return 0;
    }

    private static int slipAt(long slips, int i) {
        return (int) (slips >>> (4 * i)) & 15;
    }

    private static boolean areSlips(long slips, int n) {
        if (n < 0 || n > MOST_PERSONS) {
            return false;
        }
        for (int i = 0; i < n; i++) {
            if (slipAt(slips, i) >= MOST_PERSONS) {
                return false;
            }
        }
        return true;
    }

    /** Draws these slips in the supposed CHEST: how many can be. */
    private int follow(long slips, int n) {
        readyNow();
        supposed.copy(chest);
        supposed.open(course);
        for (int i = 0; i < n; i++) {
            int p = slipAt(slips, i);
            if (supposed.isOver(course) || ((supposed.part(course.bag) >> p) & 1) == 0) {
                return i;
            }
            course.foretell(supposed.part(course.bag), supposed.part(SITTING), supposed.sats);
            supposed.takeOut(course, p);
        }
        return n;
    }

    /** False if there are too many unlike ones on the way. */
    private boolean walkBy(Rule by, int absent, int drawing) {
        course.set(by, town.packed[0], town.packed[1], absent);
        walk.start(chest);
        boolean goesOn = true;
        for (int d = chest.next; d <= drawing && goesOn; d++) {
            goesOn = walk.pass(course, d);
        }
        return goesOn;
    }

    private void supposePacked(int bag, int bits) {
        int first = bag == 0 ? bits : town.packed[0];
        int second = bag == 0 ? town.packed[1] : bits;
        course.set(rule, first, second, 0);
        supposed.startAnew(first, second);
        walk.start(supposed);
    }

    private boolean walkPacked(int bag, int bits, int drawing) {
        supposePacked(bag, bits);
        boolean goesOn = true;
        for (int d = 0; d <= drawing && goesOn; d++) {
            goesOn = walk.pass(course, d);
        }
        return goesOn;
    }

    private boolean walkAsListed() {
        for (int d = 0; d < listedCount && d < MOST_DRAWINGS; d++) {
            if (!walk.pass(course, d)) {
                return false;
            }
            walk.goOnWith(listed[d]);
        }
        return true;
    }

    /** The numbers that were told last. */
    private static final class Row {
        final long[] numbers = new long[MOST_NUMBERS];
        int size;

        void clear() {
            size = 0;
        }

        void tell(long number) {
            if (size < MOST_NUMBERS) {
                numbers[size] = number;
                size++;
            }
        }

        void tellOne(long number) {
            clear();
            tell(number);
        }
    }

    /** The signs that a RULE is read from. */
    private static final class Text {
        private static final int AT_LINE = 0;
        private static final int AT_DIGIT = 1;
        private static final int AT_FATE = 2;
        private static final int BEHIND_LINE = 3;

        final int[] signs = new int[MOST_SIGNS];
        int length;

        boolean add(int v) {
            if (length > MOST_SIGNS - 4) {
                return false;
            }
            for (int shift = 24; shift >= 0; shift -= 8) {
                signs[length] = (v >>> shift) & 255;
                length++;
            }
            return true;
        }

        boolean cut(int n) {
            if (n < 0 || n > length) {
                return false;
            }
            length = n;
            return true;
        }

        /** Where a RULE can't go on, or end; -1 if all of it can stand. */
        int firstFault() {
            int at = AT_LINE;
            for (int i = 0; i < length && i < MOST_RULE_SIGNS; i++) {
                at = behind(at, signs[i]);
                if (at < 0) {
                    return i;
                }
            }
            if (length > MOST_RULE_SIGNS) {
                return MOST_RULE_SIGNS;
            }
            return length == 0 || at == BEHIND_LINE ? -1 : length;
        }

        private static int behind(int at, int sign) {
            switch (at) {
                case AT_LINE:
                    if (sign == 's') {
                        return AT_DIGIT;
                    }
                    return sign == 'k' || sign == 'd' || sign == 'w' ? AT_FATE : -1;
                case AT_DIGIT:
                    return sign >= '1' && sign <= '6' ? AT_FATE : -1;
                case AT_FATE:
                    return sign == 'b' || sign == 't' || sign == 'l' ? BEHIND_LINE : -1;
                default:
                    return sign == ';' ? AT_LINE : -1;
            }
        }
    }

    /** LINES: each with its kind, how many DRAWINGS back it looks, and what becomes of the slip. */
    private static final class Rule {
        final int[] kinds = new int[MOST_LINES];
        final int[] spans = new int[MOST_LINES];
        final int[] fates = new int[MOST_LINES];
        int lines;

        /** Reads a text that has no fault. */
        void read(Text text) {
            lines = 0;
            for (int i = 0; i < text.length && lines < MOST_LINES; i++) {
                int sign = text.signs[i];
                if (sign >= '1' && sign <= '6') {
                    spans[lines] = sign - '0';
                } else if (sign == 'b' || sign == 't' || sign == 'l') {
                    fates[lines] = sign;
                    lines++;
                } else if (sign != ';') {
                    kinds[lines] = sign;
                }
            }
        }
    }

    /** PERSONS, BAGS and DRAWINGS. */
    private static final class Town {
        int persons;
        final int[] houses = new int[MOST_PERSONS];
        final int[] debts = new int[MOST_PERSONS];
        final int[] awayFrom = new int[MOST_PERSONS];
        final int[] awayTo = new int[MOST_PERSONS];
        final int[] deaths = new int[MOST_PERSONS];
        final int[] packed = new int[BAGS];
        final boolean[] renewed = new boolean[BAGS];
        int drawings;
        final int[] days = new int[MOST_DRAWINGS];
        final int[] bags = new int[MOST_DRAWINGS];
        final int[] seats = new int[MOST_DRAWINGS];

        /** Told only while there are less than MOST_PERSONS. */
        int addPerson(int house) {
            int p = persons;
            houses[p] = house;
            awayFrom[p] = 1;
            awayTo[p] = 0;
            deaths[p] = DAYS;
            persons++;
            return p;
        }

        /** Told only while there are less than MOST_DRAWINGS. */
        int addDrawing(int day, int bag, int seatsThere) {
            int d = drawings;
            days[d] = day;
            bags[d] = bag;
            seats[d] = seatsThere;
            drawings++;
            return d;
        }

        int lastDay() {
            return drawings > 0 ? days[drawings - 1] : 0;
        }

        void clearDebts() {
            for (int p = 0; p < persons; p++) {
                debts[p] = 0;
            }
        }

        boolean hasPerson(int p) {
            return p >= 0 && p < persons;
        }

        boolean hasDrawing(int d) {
            return d >= 0 && d < drawings;
        }

        boolean hasAll(int bits) {
            return bits >= 0 && bits < (1 << persons);
        }

        int ofHouse(int house) {
            int kin = 0;
            for (int p = 0; p < persons; p++) {
                if (houses[p] == house) {
                    kin |= 1 << p;
                }
            }
            return kin;
        }

        int deadOn(int day) {
            int dead = 0;
            for (int p = 0; p < persons; p++) {
                if (day >= deaths[p]) {
                    dead |= 1 << p;
                }
            }
            return dead;
        }

        int indebtedOn(int day) {
            int who = 0;
            for (int p = 0; p < persons; p++) {
                if (day < debts[p]) {
                    who |= 1 << p;
                }
            }
            return who;
        }

        int awayOn(int day) {
            int who = 0;
            for (int p = 0; p < persons; p++) {
                if (day >= awayFrom[p] && day <= awayTo[p]) {
                    who |= 1 << p;
                }
            }
            return who;
        }
    }

    /** What stands fast in one DRAWING, made ready once, as it is asked for each slip. */
    private static final class Course {
        final Town town;
        Rule rule = new Rule();
        final int[] packed = new int[BAGS];
        int absent;
        int number;
        int bag;
        int seats;
        int dead;
        int indebted;
        int away;
        final int[] kin = new int[MOST_PERSONS];
        int seated;
        int back;
        int aside;

        Course(Town town) {
            this.town = town;
        }

        /** By which RULE, with BAGS packed how, and who is AWAY on all DAYS. */
        void set(Rule by, int first, int second, int gone) {
            rule = by;
            packed[0] = first;
            packed[1] = second;
            absent = gone;
        }

        void ready(int d) {
            if (!town.hasDrawing(d)) {
                return;
            }
            int day = town.days[d];
            number = d;
            bag = town.bags[d];
            seats = town.seats[d];
            dead = town.deadOn(day);
            indebted = town.indebtedOn(day);
            away = town.awayOn(day) | absent;
            for (int p = 0; p < town.persons; p++) {
                kin[p] = town.ofHouse(town.houses[p]);
            }
        }

        /** The first LINE that bars a PERSON while none sits; -1: none. */
        int lineAgainst(int sats, int p) {
            for (int line = 0; line < rule.lines; line++) {
                if (((barredBy(line, 0, sats) >> p) & 1) != 0) {
                    return line;
                }
            }
            return -1;
        }

        /** All whom some LINE bars while none sits. */
        int barredAtFirst(int sats) {
            int bits = 0;
            for (int line = 0; line < rule.lines; line++) {
                bits |= barredBy(line, 0, sats);
            }
            return bits;
        }

        /** Tells what would become of each slip that is there, if it were the next to be drawn. */
        void foretell(int there, int sitting, int sats) {
            seated = there & ~dead;
            back = 0;
            aside = 0;
            for (int line = 0; line < rule.lines; line++) {
                int barred = seated & barredBy(line, sitting, sats);
                seated &= ~barred;
                if (rule.fates[line] == 'b') {
                    back |= barred;
                } else if (rule.fates[line] == 'l') {
                    aside |= barred;
                }
            }
        }

        /** All whom a LINE bars while these sit. */
        private int barredBy(int line, int sitting, int sats) {
            switch (rule.kinds[line]) {
                case 'k':
                    return kinOf(sitting);
                case 's':
                    return satSince(number - rule.spans[line], sats);
                case 'd':
                    return indebted;
                default:
                    return away;
            }
        }

        private int kinOf(int sitting) {
            int bits = 0;
            for (int p = 0; p < town.persons && sitting != 0; p++) {
                if (((sitting >> p) & 1) != 0) {
                    bits |= kin[p];
                }
            }
            return bits;
        }

        /** All who sat in a DRAWING from the first one on, ahead of this one. */
        private int satSince(int first, int sats) {
            int bits = 0;
            for (int p = 0; p < town.persons; p++) {
                int last = ((sats >>> (3 * p)) & 7) - 1;
                if (last >= 0 && last >= first && last < number) {
                    bits |= 1 << p;
                }
            }
            return bits;
        }
    }

    /** THE CHEST, with the table of the DRAWING that goes on: who is put by, and who sits. */
    private static final class Chest {
        long slips;
        /** Three bits a PERSON: 0 if it never sat, else 1 + the DRAWING. */
        int sats;
        int next;

        void copy(Chest from) {
            slips = from.slips;
            sats = from.sats;
            next = from.next;
        }

        void lay(long newSlips, int newSats) {
            slips = newSlips;
            sats = newSats;
        }

        void startAnew(int first, int second) {
            slips = 0;
            sats = 0;
            next = 0;
            setPart(0, first);
            setPart(1, second);
        }

        int part(int which) {
            return (int) (slips >>> (MOST_PERSONS * which)) & ALL_BITS;
        }

        void setPart(int which, int bits) {
            int shift = MOST_PERSONS * which;
            slips = (slips & ~((long) ALL_BITS << shift)) | ((long) bits << shift);
        }

        void open(Course course) {
            setPart(SITTING, 0);
            int bag = course.bag;
            if (part(bag) == 0 && course.town.renewed[bag]) {
                setPart(bag, course.packed[bag]);
                setPart(ASIDE + bag, 0);
                return;
            }
            int aside = part(ASIDE + bag);
            if (aside != 0) {
                int back = aside & ~course.barredAtFirst(sats);
                setPart(bag, part(bag) | back);
                setPart(ASIDE + bag, aside & ~back);
            }
        }

        boolean isOver(Course course) {
            return part(course.bag) == 0 || Integer.bitCount(part(SITTING)) >= course.seats;
        }

        /** Draws a slip that is in the BAG, as it was foretold: whether its PERSON sits. */
        boolean takeOut(Course course, int p) {
            long bit = 1L << p;
            int bagAt = MOST_PERSONS * course.bag;
            slips &= ~(bit << bagAt);
            if (((course.seated >> p) & 1) != 0) {
                slips |= bit << SITTING_AT;
                sats = (sats & ~(7 << (3 * p))) | ((course.number + 1) << (3 * p));
                return true;
            }
            if (((course.back >> p) & 1) != 0) {
                slips |= bit << PUT_BY_AT;
            } else if (((course.aside >> p) & 1) != 0) {
                slips |= bit << (ASIDE_AT + bagAt);
            }
            return false;
        }

        /** Who sits stays told till the next one opens, so that it can be asked for. */
        void close(Course course) {
            setPart(course.bag, part(course.bag) | part(PUT_BY));
            setPart(PUT_BY, 0);
        }
    }

    /** Unlike CHESTS, each with its CHANCE; at most MOST_UNLIKE. */
    private static final class Table {
        private static final int HEADS = 4096;

        final long[] slips = new long[MOST_UNLIKE];
        final int[] sats = new int[MOST_UNLIKE];
        final long[] chances = new long[MOST_UNLIKE];
        int size;
        // Those with the same hash hang in a chain: a head, and from each the one behind it, as 1 + its number.
        private final int[] heads = new int[HEADS];
        private final int[] links = new int[MOST_UNLIKE];

        void clear() {
            for (int i = 0; i < size; i++) {
                heads[hash(slips[i], sats[i])] = 0;
            }
            size = 0;
        }

        /** False if there would be too many. */
        boolean add(long newSlips, int newSats, long chance) {
            int head = hash(newSlips, newSats);
            int at = heads[head] - 1;
            for (int k = 0; k < size && at >= 0; k++) {
                if (slips[at] == newSlips && sats[at] == newSats) {
                    chances[at] += chance;
                    return true;
                }
                at = links[at] - 1;
            }
            if (size >= MOST_UNLIKE) {
                return false;
            }
            slips[size] = newSlips;
            sats[size] = newSats;
            chances[size] = chance;
            links[size] = heads[head];
            size++;
            heads[head] = size;
            return true;
        }

        int sittingAt(int i) {
            return (int) (slips[i] >>> SITTING_AT) & ALL_BITS;
        }

        private static int hash(long slips, int sats) {
            long mixed = slips * 0x9E3779B97F4A7C15L + sats * 0xC2B2AE3D27D4EB4FL;
            mixed ^= mixed >>> 29;
            return (int) ((mixed * 0x165667B19E3779F9L) >>> 52) & (HEADS - 1);
        }
    }

    /** DRAWINGS gone through with all that may be; ends has what the last one may end with. */
    private static final class Walk {
        private Table now = new Table();
        private Table behind = new Table();
        Table ends = new Table();
        private final Chest chest = new Chest();
        long draws;
        long drawsInVain;

        void start(Chest from) {
            ends.clear();
            ends.add(from.slips, from.sats, WHOLE);
        }

        /** False if there are too many unlike ones. */
        boolean pass(Course course, int d) {
            course.ready(d);
            openAll(course);
            draws = 0;
            drawsInVain = 0;
            // One time more than there can be draws, as the last time takes those that are over.
            for (int k = 0; k <= MOST_PERSONS && now.size > 0; k++) {
                if (!drawAll(course)) {
                    return false;
                }
            }
            return true;
        }

        private void openAll(Course course) {
            now.clear();
            for (int i = 0; i < ends.size; i++) {
                chest.lay(ends.slips[i], ends.sats[i]);
                chest.open(course);
                now.add(chest.slips, chest.sats, ends.chances[i]);
            }
            ends.clear();
        }

        private boolean drawAll(Course course) {
            behind.clear();
            for (int i = 0; i < now.size; i++) {
                chest.lay(now.slips[i], now.sats[i]);
                if (chest.isOver(course)) {
                    chest.close(course);
                    if (!ends.add(chest.slips, chest.sats, now.chances[i])) {
                        return false;
                    }
                } else if (!drawEach(course, i)) {
                    return false;
                }
            }
            Table before = now;
            now = behind;
            behind = before;
            return true;
        }

        private boolean drawEach(Course course, int i) {
            int there = chest.part(course.bag);
            int slips = Integer.bitCount(there);
            long share = slips > 0 ? now.chances[i] / slips : 0;
            draws += now.chances[i];
            course.foretell(there, chest.part(SITTING), chest.sats);
            for (int p = 0; p < MOST_PERSONS; p++) {
                if (((there >> p) & 1) == 0) {
                    continue;
                }
                chest.lay(now.slips[i], now.sats[i]);
                if (!chest.takeOut(course, p)) {
                    drawsInVain += share;
                }
                if (!behind.add(chest.slips, chest.sats, share)) {
                    return false;
                }
            }
            return true;
        }

        /** Leaves those ends alone in which just these sit. */
        void goOnWith(int bits) {
            behind.clear();
            for (int i = 0; i < ends.size; i++) {
                if (ends.sittingAt(i) == bits) {
                    behind.add(ends.slips[i], ends.sats[i], ends.chances[i]);
                }
            }
            Table before = ends;
            ends = behind;
            behind = before;
        }

        long chanceOfAll() {
            long sum = 0;
            for (int i = 0; i < ends.size; i++) {
                sum += ends.chances[i];
            }
            return sum;
        }

        /** That one of these sits at least. */
        long chanceOfAny(int bits) {
            long sum = 0;
            for (int i = 0; i < ends.size; i++) {
                if ((ends.sittingAt(i) & bits) != 0) {
                    sum += ends.chances[i];
                }
            }
            return sum;
        }

        /** That a PERSON sat in this DRAWING or one behind it. */
        long chanceSince(int p, int d) {
            long sum = 0;
            for (int i = 0; i < ends.size; i++) {
                if (lastIn(ends.sats[i], p) >= d) {
                    sum += ends.chances[i];
                }
            }
            return sum;
        }

        long chanceOfFilled(int seats) {
            long sum = 0;
            for (int i = 0; i < ends.size; i++) {
                if (Integer.bitCount(ends.sittingAt(i)) == seats) {
                    sum += ends.chances[i];
                }
            }
            return sum;
        }

        long chanceOfLess(int seats) {
            long sum = 0;
            for (int n = 0; n < seats; n++) {
                sum += chanceOfFilled(n);
            }
            return sum;
        }

        boolean mayFill(int seats) {
            for (int i = 0; i < ends.size; i++) {
                if (Integer.bitCount(ends.sittingAt(i)) == seats) {
                    return true;
                }
            }
            return false;
        }

        int whoAlwaysSit() {
            int bits = ends.size > 0 ? ALL_BITS : 0;
            for (int i = 0; i < ends.size; i++) {
                bits &= ends.sittingAt(i);
            }
            return bits;
        }

        int whoMaySit() {
            int bits = 0;
            for (int i = 0; i < ends.size; i++) {
                bits |= ends.sittingAt(i);
            }
            return bits;
        }

        /** The greatest less the least of their CHANCES to sit. */
        long howUnlike(int who) {
            long greatest = -1;
            long least = -1;
            for (int p = 0; p < MOST_PERSONS; p++) {
                if (((who >> p) & 1) != 0) {
                    long chance = chanceOfAny(1 << p);
                    greatest = Math.max(greatest, chance);
                    least = least < 0 ? chance : Math.min(least, chance);
                }
            }
            return greatest - least;
        }
    }
}
