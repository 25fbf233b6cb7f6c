import java.util.NoSuchElementException;

/**
 * A great estate under one owner for life and one agent. The face below asks its numbers and throws;
 * the classes inside it hold the state and reckon, and never throw.
 */
public final class GreatEstate {
    public static final int NONE = -1;

    private static final int FIELDS = 48;
    private static final int WIDE = 8;
    private static final int SIDES = 4;
    private static final int HOLDINGS = 24;
    private static final int ACTS = 12;
    private static final int LINES = 16;
    private static final int TAPE = 400;
    private static final int LAST_SEASON = 400;
    private static final int LAST_YEAR = 100;
    private static final int CROPS = 5;
    private static final int FALLOW = 5;

    private static final int FARM = 0;
    private static final int YEARLY = 1;
    private static final int HAND = 2;
    private static final int WOOD = 3;
    private static final int MINE = 4;
    private static final int COTTAGE = 5;

    private static final int WRONG_LET = 0;
    private static final int WRONG_FELLED = 1;
    private static final int WRONG_LENT = 2;
    private static final int WRONG_SOLD = 3;

    private static final long MOST_COIN = 2000000000L;
    private static final int LOST = -1000000000;

    private final Reader reader;
    private final Estate now;
    private final Estate kept;
    private boolean hasImage;
    private final Year passing;

    public GreatEstate() {
        Texts texts = new Texts();
        reader = new Reader(texts);
        now = new Estate(texts);
        kept = new Estate(texts);
        passing = new Year(now);
    }

    public int feed(int a, int b, int c, int d, int e) {
        if (reader.fed + 20 > TAPE) {
            return NONE;
        }
        reader.addBytes(a);
        reader.addBytes(b);
        reader.addBytes(c);
        reader.addBytes(d);
        reader.addBytes(e);
        return reader.fed;
    }

    public boolean end(int n) {
        if (n < 0 || n > reader.fed) {
            return false;
        }
        reader.fed = n;
        return true;
    }

    public boolean field(int field, int soil, int wet, int worn, int game, int age)
            throws IndexOutOfBoundsException, IllegalArgumentException {
        needField(field);
        needWithin(soil, 0, 9);
        needWithin(wet, 0, 9);
        needWithin(worn, 0, 20);
        needWithin(game, 0, 99);
        needWithin(age, 0, 300);
        if (now.land.isSold(field)) {
            return false;
        }
        now.land.set(Land.SOIL, field, soil);
        now.land.set(Land.WET, field, wet);
        now.land.set(Land.WORN, field, worn);
        now.land.set(Land.GAME, field, game);
        now.land.set(Land.AGE, field, age);
        return true;
    }

    public void rain(int year, int n, boolean is) throws IllegalArgumentException {
        needWithin(year, 0, LAST_YEAR);
        if (is) {
            needWithin(n, -5, 5);
        }
        now.market.setRain(year, is ? n : Market.NO_NUMBER);
    }

    public int fell(int year) throws IllegalArgumentException {
        needWithin(year, 0, LAST_YEAR);
        return now.market.rainOf(year);
    }

    public int price(int crop, int year, int n) throws IllegalArgumentException {
        needWithin(crop, 1, 4);
        needWithin(year, 0, LAST_YEAR);
        needWithin(n, 0, 100);
        return now.market.tell(crop, year, n, now.season);
    }

    public int known(int crop, int year, int season) throws IllegalArgumentException {
        needWithin(crop, 1, 4);
        needWithin(year, 0, LAST_YEAR);
        return now.market.priceAt(crop, year, season);
    }

    public int let(int from, int to, int years, int coin, boolean forced)
            throws IndexOutOfBoundsException, IllegalArgumentException {
        reader.useTape();
        needField(from);
        needField(to);
        needWithin(years, 0, 99);
        needWithin(coin, 0, 100000);
        needText(reader.read(true, Texts.slotOfLease(now.holdings.size)));
        boolean rightful = years <= now.yearsLet();
        if (!now.isFree(from, to) || !(rightful || forced)) {
            return NONE;
        }
        if (!rightful) {
            now.noteWrong(WRONG_LET, 0);
        }
        return now.openLease(from, to, years, coin);
    }

    public int keep(int from, int to, int kind, int number, int other)
            throws IndexOutOfBoundsException, IllegalArgumentException {
        needField(from);
        needField(to);
        needWithin(kind, HAND, COTTAGE);
        if (kind == MINE) {
            needWithin(number, 0, 2000);
            needWithin(other, 0, 100);
        }
        if (kind == COTTAGE) {
            needWithin(number, 0, 1000);
        }
        if (!now.isFree(from, to)) {
            return NONE;
        }
        return now.openKept(from, to, kind, number, other);
    }

    public boolean sow(int field, int crop)
            throws IndexOutOfBoundsException, IllegalArgumentException, ClassCastException {
        needField(field);
        needWithin(crop, 0, CROPS);
        needKind(Holdings.isHand(now.kindAt(field)));
        boolean another = now.land.get(Land.CROP, field) != crop;
        now.land.set(Land.CROP, field, crop);
        return another;
    }

    public boolean notice(int holding) throws IndexOutOfBoundsException, ClassCastException {
        needHolding(holding);
        needKind(now.holdings.get(Holdings.KIND, holding) == YEARLY);
        boolean first = now.holdings.get(Holdings.NOTICE, holding) == 0;
        now.holdings.set(Holdings.NOTICE, holding, 1);
        return first;
    }

    public int give(int holding) throws IndexOutOfBoundsException, ClassCastException {
        needHolding(holding);
        needKind(!now.holdings.isLet(holding));
        int fields = now.holdings.get(Holdings.SIZE, holding);
        now.close(holding);
        return fields;
    }

    public int seasons(int n) throws IllegalArgumentException {
        needWithin(n, 0, 40);
        for (int i = 0; i < n && now.season < LAST_SEASON; i++) {
            passing.pass();
        }
        return now.season;
    }

    public int look(int field, int what) throws IndexOutOfBoundsException, NoSuchElementException {
        needField(field);
        needKnown(what >= 0 && what <= 12);
        return what == 12 ? now.land.worthOf(field) : now.land.get(what, field);
    }

    public int led(int holding, int what) throws IndexOutOfBoundsException, NoSuchElementException {
        needHolding(holding);
        needKnown(what >= 0 && what <= 10);
        return now.holdings.get(what, holding);
    }

    public int owed(int holding) throws IndexOutOfBoundsException, ClassCastException {
        needHolding(holding);
        needKind(now.holdings.isLet(holding));
        return now.owedTo(holding);
    }

    public int rent(int holding) throws IndexOutOfBoundsException, ClassCastException {
        needHolding(holding);
        needKind(now.holdings.isLet(holding));
        return now.rentOf(holding);
    }

    public int arrears(int n) {
        return now.holdings.ofRank(n);
    }

    public int words(int season) throws IllegalArgumentException, UnsupportedOperationException {
        reader.useTape();
        needWithin(season, now.season, LAST_SEASON);
        int slot = Texts.slotOfAct(now.words.size);
        needText(reader.read(false, slot));
        needRoom(now.words.size < ACTS);
        now.words.add(season);
        return now.texts.lines[slot];
    }

    public int fault() {
        return reader.fault;
    }

    public int may(int what, int field) throws IndexOutOfBoundsException, NoSuchElementException {
        needField(field);
        needKnown(what >= 0 && what <= 9);
        switch (what) {
            case 0:
                return now.yearsLet();
            case 1:
                return now.lineThatLets(Texts.FELL, field) != NONE ? 1 : 0;
            case 2:
                return now.mostBorrowed();
            case 3:
                return now.lineThatLets(Texts.SELL, field) != NONE ? 1 : 0;
            case 4:
                return now.chargesNow();
            default:
                return now.partOf(Texts.LIME + what - 5);
        }
    }

    public int why(int what, int field) throws IndexOutOfBoundsException, NoSuchElementException {
        needField(field);
        needKnown(what >= 0 && what <= 4);
        switch (what) {
            case 0:
                return Texts.told(now.lastLine(Texts.YEARS, 0));
            case 1:
                return Texts.told(now.lineThatLets(Texts.FELL, field));
            case 2:
                return Texts.told(now.lastLine(Texts.BORROW, 0));
            case 3:
                return Texts.told(now.lineThatLets(Texts.SELL, field));
            default:
                return Texts.told(now.firstCharge());
        }
    }

    public int cut(int field, boolean forced) throws IndexOutOfBoundsException, ClassCastException {
        needField(field);
        needKind(now.kindAt(field) == WOOD);
        boolean rightful = now.lineThatLets(Texts.FELL, field) != NONE;
        if (!rightful && !forced) {
            return NONE;
        }
        int coins = now.land.timberOf(field);
        if (!rightful) {
            now.noteWrong(WRONG_FELLED, coins);
        }
        now.takeIn(Texts.WOOD_THING, coins);
        now.land.set(Land.AGE, field, 0);
        return coins;
    }

    public int loan(int n, int rate, int years, boolean forced)
            throws IllegalArgumentException, UnsupportedOperationException {
        needWithin(n, 1, 100000);
        needWithin(rate, 0, 2000);
        needWithin(years, 1, 40);
        needRoom(now.ledger.loans < Ledger.LOANS);
        boolean rightful = now.ledger.owedInAll() + n <= now.mostBorrowed();
        if (!rightful && !forced) {
            return NONE;
        }
        if (!rightful) {
            now.noteWrong(WRONG_LENT, n);
        }
        return now.ledger.lend(n, rate, years);
    }

    public int owing(int loan) throws IndexOutOfBoundsException {
        needIndex(loan, now.ledger.loans);
        return now.ledger.left[loan];
    }

    public boolean work(int field, boolean lime) throws IndexOutOfBoundsException {
        needField(field);
        int thing = lime ? Texts.LIME : Texts.DRAIN;
        if (now.land.isSold(field) || !now.payWork(thing, lime ? 8 : 30)) {
            return false;
        }
        now.land.set(lime ? Land.LIME : Land.DRAIN, field, lime ? 6 : 20);
        return true;
    }

    public int sell(int field, boolean forced) throws IndexOutOfBoundsException {
        needField(field);
        if (now.land.isSold(field) || now.land.get(Land.HOLDER, field) != NONE) {
            return NONE;
        }
        boolean rightful = now.lineThatLets(Texts.SELL, field) != NONE;
        if (!rightful && !forced) {
            return NONE;
        }
        int coins = now.land.worthOf(field);
        if (!rightful) {
            now.noteWrong(WRONG_SOLD, coins);
        }
        now.takeIn(Texts.LAND_THING, coins);
        now.land.set(Land.SOLD, field, 1);
        return coins;
    }

    public int heir() {
        return now.ledger.passOn();
    }

    public int wrong(int n, int what) throws NoSuchElementException {
        needKnown(n >= 0 && n < Math.min(now.ledger.wrongs, Ledger.WRONGS_KEPT));
        needKnown(what >= 0 && what <= 3);
        return now.ledger.wrongNote(n, what);
    }

    public int job(int cost, int brings, int year) throws IllegalArgumentException {
        needWithin(cost, 0, 100000);
        needWithin(brings, 0, 10000);
        needWithin(year, 0, 29);
        return now.plan.addJob(cost, brings, year);
    }

    public int trouble(int first, int change) throws IllegalArgumentException {
        needWithin(first, -100000, 100000);
        needWithin(change, -1000, 1000);
        return now.plan.addTrouble(first, change);
    }

    public int worth(int coin, int charge, int set) throws IllegalArgumentException {
        needWithin(coin, 0, 1000000);
        needWithin(charge, 0, 100000);
        return now.plan.leastEnd(coin, charge, set);
    }

    public int best(int coin, int charge) throws IllegalArgumentException {
        needWithin(coin, 0, 1000000);
        needWithin(charge, 0, 100000);
        return now.plan.bestSet(coin, charge);
    }

    public int toSell(int from, int n, int coin) throws IndexOutOfBoundsException, IllegalArgumentException {
        needField(from);
        needWithin(n, 1, 8);
        needWithin(from + n, 1, FIELDS);
        needWithin(coin, 0, 100000);
        return now.bestSale(from, n, coin);
    }

    public int row(int i, int field) throws IndexOutOfBoundsException, NoSuchElementException {
        needField(field);
        needKnown(i >= 0 && i < now.rows.size);
        return now.rows.seen[i * FIELDS + field];
    }

    public int tear(int i, int field, int mask) throws IndexOutOfBoundsException, NoSuchElementException {
        needField(field);
        needKnown(i >= 0 && i < now.rows.size);
        now.rows.seen[i * FIELDS + field] ^= mask;
        return now.rows.seen[i * FIELDS + field];
    }

    public int check() {
        return now.rows.firstFalse();
    }

    public void image() {
        kept.copyFrom(now);
        hasImage = true;
    }

    public boolean back() {
        if (!hasImage) {
            return false;
        }
        now.copyFrom(kept);
        return true;
    }

    public int count(int what) {
        switch (what) {
            case 0:
                return now.season;
            case 1:
                return now.season / 4;
            case 4:
                return now.holdings.size;
            case 5:
                return now.holdings.goingOn();
            case 6:
                return now.holdings.sumOf(Holdings.ARREARS);
            case 7:
                return now.holdings.sumOf(Holdings.PUT);
            case 8:
                return now.words.size;
            case 9:
                return now.words.linesInForce(now.texts, now.season);
            case 14:
                return now.land.soldFields();
            case 17:
                return now.rows.size;
            default:
                return now.ledger.told(what);
        }
    }

    private static void needIndex(int i, int size) {
        if (i < 0 || i >= size) {
            throw new IndexOutOfBoundsException("there is none such");
        }
    }

    private static void needField(int field) {
        needIndex(field, FIELDS);
    }

    private void needHolding(int holding) {
        needIndex(holding, now.holdings.size);
    }

    private static void needWithin(int n, int least, int most) {
        if (n < least || n > most) {
            throw new IllegalArgumentException("a number is out of its bounds");
        }
    }

    private static void needText(boolean right) {
        if (!right) {
            throw new IllegalArgumentException("the text is wrong");
        }
    }

    private static void needKind(boolean fits) {
        if (!fits) {
            throw new ClassCastException("the HOLDING is of another kind");
        }
    }

    private static void needKnown(boolean is) {
        if (!is) {
            throw new NoSuchElementException("there is none such");
        }
    }

    private static void needRoom(boolean is) {
        if (!is) {
            throw new UnsupportedOperationException("there are 12");
        }
    }

    /** What would be beyond the bounds of a sum of coin is lost. */
    private static int capped(long sum) {
        return (int) Math.max(-MOST_COIN, Math.min(MOST_COIN, sum));
    }

    /**
     * All texts that were read, in slots: of HOLDING h slot h, of the estate's text t slot 24 + t, and a spare one.
     * THE IMAGE shares them, since a slot that it uses is never written again: only one behind its counts is.
     */
    static final class Texts {
        // The numbers of the words of Reader.DICTIONARY.
        static final int YEAR = 0;
        static final int WHEAT = 1;
        static final int GRASS = 4;
        static final int AGE = 5;
        static final int WORN = 6;
        static final int WET = 7;
        static final int SOIL = 8;
        static final int COIN = 9;
        static final int ARREARS = 10;
        static final int FALLOW_WORD = 11;
        static final int LIME = 12;
        static final int DRAIN = 13;
        static final int WOOD_THING = 14;
        static final int MINE_THING = 15;
        static final int LAND_THING = 16;
        static final int YEARS = 17;
        static final int FELL = 18;
        static final int BORROW = 19;
        static final int SELL = 20;
        static final int PART = 21;
        static final int CHARGE = 22;
        static final int STRIKE = 23;
        static final int RENT = 24;
        static final int CORN = 25;
        static final int BAR = 26;
        static final int OWE = 27;
        static final int WASTE = 28;
        static final int PUT = 29;
        static final int GAME = 30;
        static final int IF = 31;
        static final int OF = 32;
        static final int AFTER = 33;
        static final int AND_WORD = 34;
        static final int OR_WORD = 35;
        static final int NOT_WORD = 36;

        // Codes of a condition, each behind what it works on: a number is itself, a fact f is -1 - f.
        static final int ADD = -12;
        static final int LESS = -13;
        static final int MORE = -14;
        static final int NOT = -15;
        static final int AND = -16;
        static final int OR = -17;

        private static final int SPARE = HOLDINGS + ACTS;
        private static final int SLOTS = SPARE + 1;
        private static final int STACK = 64;

        final int[] lines = new int[SLOTS];
        final int[] verb = new int[SLOTS * LINES];
        final int[] number = new int[SLOTS * LINES];
        final int[] first = new int[SLOTS * LINES];
        final int[] second = new int[SLOTS * LINES];
        final int[] codeFrom = new int[SLOTS * LINES];
        final int[] codeTo = new int[SLOTS * LINES];
        final int[] code = new int[SLOTS * TAPE];
        final long[] fact = new long[ARREARS + 1];
        private final long[] stack = new long[STACK];

        static int slotOfLease(int holding) {
            return holding < HOLDINGS ? holding : SPARE;
        }

        static int slotOfAct(int text) {
            return text < ACTS ? HOLDINGS + text : SPARE;
        }

        /** A line of the estate's words as why() tells it. */
        static int told(int line) {
            return line == NONE ? NONE : line - HOLDINGS * LINES;
        }

        int numberOf(int line) {
            return line == NONE ? 0 : number[line];
        }

        /** Whether the condition of a line holds by the facts; a line without one always does. */
        boolean holds(int line) {
            int depth = 0;
            for (int i = codeFrom[line]; i < codeTo[line]; i++) {
                depth = step(code[i], depth);
            }
            return depth < 1 || stack[0] != 0;
        }

        private int step(int op, int depth) {
            if (op > ADD) {
                if (depth >= STACK) {
                    return depth;
                }
                stack[depth] = op >= 0 ? op : fact[-1 - op];
                return depth + 1;
            }
            if (op == NOT) {
                if (depth > 0) {
                    stack[depth - 1] = 1 - stack[depth - 1];
                }
                return depth;
            }
            if (depth < 2) {
                return depth;
            }
            long a = stack[depth - 2];
            long b = stack[depth - 1];
            if (op == ADD) {
                stack[depth - 2] = a + b;
            } else if (op == AND) {
                stack[depth - 2] = a & b;
            } else if (op == OR) {
                stack[depth - 2] = a | b;
            } else {
                stack[depth - 2] = (op == LESS ? a < b : a > b) ? 1 : 0;
            }
            return depth - 1;
        }

        /** The last line of a verb (and of a thing, 0 where the verb has none) in a slot. */
        int lastIn(int slot, int wanted, int thing) {
            for (int i = lines[slot] - 1; i >= 0; i--) {
                int line = slot * LINES + i;
                if (verb[line] == wanted && first[line] == thing) {
                    return line;
                }
            }
            return NONE;
        }

        int firstHolding(int slot, int wanted) {
            for (int i = 0; i < lines[slot]; i++) {
                int line = slot * LINES + i;
                if (verb[line] == wanted && holds(line)) {
                    return line;
                }
            }
            return NONE;
        }

        int sumHolding(int slot, int wanted) {
            int sum = 0;
            for (int i = 0; i < lines[slot]; i++) {
                int line = slot * LINES + i;
                if (verb[line] == wanted && holds(line)) {
                    sum += number[line];
                }
            }
            return sum;
        }
    }

    /** Has the TAPE, and reads a text from it into a slot, token by token. */
    static final class Reader {
        private static final String DICTIONARY = "year wheat barley turnips grass age worn wet soil coin arrears fallow lime drain wood mine land years fell borrow sell part charge strike rent corn bar owe waste put game if of after and or not";
        private static final int END = 0;
        private static final int WORD = 1;
        private static final int NUMBER = 2;
        private static final int SIGN = 3;
        private static final int DEEPEST = 6;
        private static final int MOST = 999999;

        private final byte[] tape = new byte[TAPE];
        private final Texts texts;
        int fed;
        int fault = NONE;
        private int length;
        private int at;
        private int start;
        private int kind;
        private int value;
        private int slot;
        private int codes;

        Reader(Texts texts) {
            this.texts = texts;
        }

        void addBytes(int four) {
            for (int shift = 24; shift >= 0 && fed < TAPE; shift -= 8) {
                tape[fed] = (byte) (four >> shift);
                fed++;
            }
        }

        /** The TAPE is empty then; what it had is the text to be read. */
        void useTape() {
            length = fed;
            fed = 0;
        }

        /** Whether the text is right; if not, fault is where the token begins that cannot stand there. */
        boolean read(boolean lease, int into) {
            slot = into;
            at = 0;
            codes = slot * TAPE;
            texts.lines[slot] = 0;
            next();
            boolean right = takeLines(lease);
            fault = right ? NONE : start;
            return right;
        }

        private boolean takeLines(boolean lease) {
            if (kind == END) {
                return true;
            }
            for (int i = 0; i < LINES; i++) {
                int line = slot * LINES + i;
                if (!takeVerb(lease, line) || !(lease ? takeRestOfLease(line) : takeRestOfAct(line))) {
                    return false;
                }
                texts.lines[slot] = i + 1;
                if (kind == END) {
                    return true;
                }
                if (!takeSign(';')) {
                    return false;
                }
            }
            return false;
        }

        private boolean takeVerb(boolean lease, int line) {
            int least = lease ? Texts.RENT : Texts.YEARS;
            int most = lease ? Texts.GAME : Texts.STRIKE;
            if (kind != WORD || value < least || value > most) {
                return false;
            }
            texts.verb[line] = value;
            texts.number[line] = 0;
            texts.first[line] = 0;
            texts.second[line] = 0;
            texts.codeFrom[line] = codes;
            texts.codeTo[line] = codes;
            next();
            return true;
        }

        private boolean takeRestOfLease(int line) {
            switch (texts.verb[line]) {
                case Texts.CORN:
                    return takeNumber(line, MOST) && takeWord(Texts.OF) && takeCrop(texts.first, line);
                case Texts.BAR:
                    return takeCrop(texts.first, line) && takeWord(Texts.AFTER) && takeCrop(texts.second, line);
                case Texts.OWE:
                    return takeOneOf(Texts.LIME, Texts.DRAIN, line) && takeNumber(line, MOST);
                case Texts.PUT:
                    return takeNumber(line, 100) && isWord(Texts.IF) && takeIf(line);
                case Texts.GAME:
                    return takeNumber(line, 100);
                default:
                    return takeNumber(line, MOST) && takeIf(line);
            }
        }

        private boolean takeRestOfAct(int line) {
            switch (texts.verb[line]) {
                case Texts.FELL:
                case Texts.SELL:
                    return takeIf(line);
                case Texts.PART:
                    return takeOneOf(Texts.LIME, Texts.LAND_THING, line) && takeNumber(line, 100);
                case Texts.CHARGE:
                    return takeNumber(line, MOST) && takeIf(line);
                case Texts.STRIKE:
                    return takeOneOf(Texts.YEARS, Texts.CHARGE, line);
                default:
                    return takeNumber(line, MOST);
            }
        }

        private boolean takeNumber(int line, int most) {
            if (kind != NUMBER || value > most) {
                return false;
            }
            texts.number[line] = value;
            next();
            return true;
        }

        private boolean takeCrop(int[] into, int line) {
            if (kind != WORD) {
                return false;
            }
            boolean fallow = value == Texts.FALLOW_WORD;
            if (!fallow && (value < Texts.WHEAT || value > Texts.GRASS)) {
                return false;
            }
            into[line] = fallow ? FALLOW : value;
            next();
            return true;
        }

        private boolean takeOneOf(int least, int most, int line) {
            if (kind != WORD || value < least || value > most) {
                return false;
            }
            texts.first[line] = value;
            next();
            return true;
        }

        private boolean takeWord(int word) {
            if (!isWord(word)) {
                return false;
            }
            next();
            return true;
        }

        private boolean takeSign(int sign) {
            if (!isSign(sign)) {
                return false;
            }
            next();
            return true;
        }

        private boolean isWord(int word) {
            return kind == WORD && value == word;
        }

        private boolean isSign(int sign) {
            return kind == SIGN && value == sign;
        }

        private boolean takeIf(int line) {
            if (!isWord(Texts.IF)) {
                return true;
            }
            next();
            boolean right = takeCondition(0);
            texts.codeTo[line] = codes;
            return right;
        }

        private boolean takeCondition(int deep) {
            if (!takeAll(deep)) {
                return false;
            }
            for (int i = 0; i < TAPE && isWord(Texts.OR_WORD); i++) {
                next();
                if (!takeAll(deep)) {
                    return false;
                }
                emit(Texts.OR);
            }
            return true;
        }

        private boolean takeAll(int deep) {
            if (!takeAtom(deep)) {
                return false;
            }
            for (int i = 0; i < TAPE && isWord(Texts.AND_WORD); i++) {
                next();
                if (!takeAtom(deep)) {
                    return false;
                }
                emit(Texts.AND);
            }
            return true;
        }

        private boolean takeAtom(int deep) {
            boolean not = isWord(Texts.NOT_WORD);
            if (not || isSign('(')) {
                if (deep >= DEEPEST) {
                    return false;
                }
                next();
                boolean right = not ? takeAtom(deep + 1) : takeCondition(deep + 1) && takeSign(')');
                if (not) {
                    emit(Texts.NOT);
                }
                return right;
            }
            if (!takeSum()) {
                return false;
            }
            boolean less = isSign('<');
            boolean right = (takeSign('<') || takeSign('>')) && takeSum();
            emit(less ? Texts.LESS : Texts.MORE);
            return right;
        }

        private boolean takeSum() {
            for (int parts = 0; parts < TAPE; parts++) {
                boolean number = kind == NUMBER && value <= MOST;
                boolean fact = kind == WORD && value >= Texts.YEAR && value <= Texts.ARREARS;
                if (!number && !fact) {
                    return false;
                }
                emit(number ? value : -1 - value);
                if (parts > 0) {
                    emit(Texts.ADD);
                }
                next();
                if (!isSign('+')) {
                    return true;
                }
                next();
            }
            return false;
        }

        /** No text has more codes than bytes, so that the slot has room for all. */
        private void emit(int op) {
            if (codes < (slot + 1) * TAPE) {
                texts.code[codes] = op;
                codes++;
            }
        }

        private void next() {
            while (at < length && tape[at] == ' ') {
                at++;
            }
            start = at;
            value = 0;
            if (at >= length) {
                kind = END;
            } else if (isLetter(tape[at])) {
                kind = WORD;
                while (at < length && isLetter(tape[at])) {
                    at++;
                }
                value = wordFrom(start);
            } else if (isDigit(tape[at])) {
                kind = NUMBER;
                while (at < length && isDigit(tape[at])) {
                    // One of too many digits is beyond every bound, whatever its digits are.
                    value = at - start < 6 ? value * 10 + tape[at] - '0' : MOST + 1;
                    at++;
                }
            } else {
                kind = SIGN;
                value = tape[at];
                at++;
            }
        }

        private static boolean isLetter(int sign) {
            return sign >= 'a' && sign <= 'z';
        }

        private static boolean isDigit(int sign) {
            return sign >= '0' && sign <= '9';
        }

        /** The number in the dictionary of the word that goes from a byte to the present one; NONE. */
        private int wordFrom(int begin) {
            int word = 0;
            int i = begin;
            boolean same = true;
            for (int d = 0; d <= DICTIONARY.length(); d++) {
                char sign = d < DICTIONARY.length() ? DICTIONARY.charAt(d) : ' ';
                if (sign == ' ') {
                    if (same && i == at) {
                        return word;
                    }
                    word++;
                    i = begin;
                    same = true;
                } else if (same && i < at && tape[i] == sign) {
                    i++;
                } else {
                    same = false;
                }
            }
            return NONE;
        }
    }

    /** Which texts are the estate's words, and in which order they count. */
    static final class Words {
        int size;
        private final int[] since = new int[ACTS];
        private final int[] order = new int[ACTS];

        void add(int season) {
            if (size >= ACTS) {
                return;
            }
            int place = size;
            while (place > 0 && since[order[place - 1]] > season) {
                order[place] = order[place - 1];
                place--;
            }
            order[place] = size;
            since[size] = season;
            size++;
        }

        void copyFrom(Words other) {
            size = other.size;
            System.arraycopy(other.since, 0, since, 0, ACTS);
            System.arraycopy(other.order, 0, order, 0, ACTS);
        }

        private int inForce(int season) {
            int n = 0;
            for (int place = 0; place < size; place++) {
                if (since[order[place]] <= season) {
                    n++;
                }
            }
            return n;
        }

        private int slotAt(int place) {
            return HOLDINGS + order[place];
        }

        /** The place of the last text in force that strikes a verb: lines of it ahead of that place are taken away. */
        private int lastStrike(Texts texts, int inForce, int verb) {
            for (int place = inForce - 1; place > 0; place--) {
                if (texts.lastIn(slotAt(place), Texts.STRIKE, verb) != NONE) {
                    return place;
                }
            }
            return 0;
        }

        int lastLine(Texts texts, int season, int verb, int thing) {
            for (int place = inForce(season) - 1; place >= 0; place--) {
                int line = texts.lastIn(slotAt(place), verb, thing);
                if (line != NONE) {
                    return line;
                }
                if (texts.lastIn(slotAt(place), Texts.STRIKE, verb) != NONE) {
                    return NONE;
                }
            }
            return NONE;
        }

        int firstHolding(Texts texts, int season, int verb) {
            int inForce = inForce(season);
            for (int place = lastStrike(texts, inForce, verb); place < inForce; place++) {
                int line = texts.firstHolding(slotAt(place), verb);
                if (line != NONE) {
                    return line;
                }
            }
            return NONE;
        }

        int sumHolding(Texts texts, int season, int verb) {
            int inForce = inForce(season);
            int sum = 0;
            for (int place = lastStrike(texts, inForce, verb); place < inForce; place++) {
                sum += texts.sumHolding(slotAt(place), verb);
            }
            return sum;
        }

        int linesInForce(Texts texts, int season) {
            int inForce = inForce(season);
            int n = 0;
            for (int verb = Texts.YEARS; verb <= Texts.STRIKE; verb++) {
                for (int place = lastStrike(texts, inForce, verb); place < inForce; place++) {
                    n += linesOf(texts, slotAt(place), verb);
                }
            }
            return n;
        }

        private static int linesOf(Texts texts, int slot, int verb) {
            int n = 0;
            for (int i = 0; i < texts.lines[slot]; i++) {
                if (texts.verb[slot * LINES + i] == verb) {
                    n++;
                }
            }
            return n;
        }
    }

    /** The fields. What stands of one has the number that look() asks it by. */
    static final class Land {
        static final int SOIL = 0;
        static final int WET = 1;
        static final int WORN = 2;
        static final int CROP = 3;
        static final int DRAIN = 4;
        static final int LIME = 5;
        static final int GAME = 6;
        static final int AGE = 7;
        static final int SUNK = 8;
        static final int YIELD = 9;
        static final int HOLDER = 10;
        static final int SOLD = 11;
        static final int ATE = 12;
        static final int ATE_CROP = 13;
        private static final int COLUMNS = 14;
        private static final int[] GROWS = {0, 8, 7, 6, 5, 0};
        private static final int[] WEARS = {0, 2, 1, -1, -2, -3};

        private final int[] cells = new int[COLUMNS * FIELDS];

        Land() {
            for (int field = 0; field < FIELDS; field++) {
                cells[SOIL * FIELDS + field] = 5;
                cells[HOLDER * FIELDS + field] = NONE;
            }
        }

        void copyFrom(Land other) {
            System.arraycopy(other.cells, 0, cells, 0, COLUMNS * FIELDS);
        }

        int get(int what, int field) {
            return isCell(what, field) ? cells[what * FIELDS + field] : 0;
        }

        void set(int what, int field, int n) {
            if (isCell(what, field)) {
                cells[what * FIELDS + field] = n;
            }
        }

        private static boolean isCell(int what, int field) {
            return what >= 0 && what < COLUMNS && field >= 0 && field < FIELDS;
        }

        boolean isSold(int field) {
            return get(SOLD, field) != 0;
        }

        int soldFields() {
            int n = 0;
            for (int field = 0; field < FIELDS; field++) {
                n += get(SOLD, field);
            }
            return n;
        }

        /** The field beside one on a side (0 to 3: above, below, right, left), or NONE at the edge. */
        static int beside(int field, int side) {
            int x = field % WIDE + (side == 2 ? 1 : 0) - (side == 3 ? 1 : 0);
            int next = field - field % WIDE + x + (side == 1 ? WIDE : 0) - (side == 0 ? WIDE : 0);
            return x < 0 || x >= WIDE || next < 0 || next >= FIELDS ? NONE : next;
        }

        /** Whether a field lies in the rectangle of two corners. */
        static boolean isWithin(int field, int from, int to) {
            return isBetween(field % WIDE, from % WIDE, to % WIDE) && isBetween(field / WIDE, from / WIDE, to / WIDE);
        }

        private static boolean isBetween(int n, int a, int b) {
            return n >= Math.min(a, b) && n <= Math.max(a, b);
        }

        int timberOf(int field) {
            return get(AGE, field) * get(AGE, field);
        }

        int worthOf(int field) {
            int wet = get(DRAIN, field) > 0 ? 0 : get(WET, field);
            int ground = 100 + 20 * get(SOIL, field) - 5 * get(WORN, field) - 10 * wet - 30 * get(SUNK, field);
            return Math.max(10, ground) + timberOf(field);
        }

        /** What a crop would yield on a field ahead of what game eats. */
        int growthOf(int field, int crop, int rain) {
            if (crop < 1 || crop >= FALLOW) {
                return 0;
            }
            int wet = get(DRAIN, field) > 0 ? get(WET, field) / 3 : get(WET, field);
            int lime = get(LIME, field) > 0 ? 2 : 0;
            int worn = get(WORN, field) / 2;
            return Math.max(0, GROWS[crop] + get(SOIL, field) + rain + lime - worn - wet - 2 * get(SUNK, field));
        }

        void harvest(int field, int rain) {
            int crop = get(CROP, field);
            int grown = growthOf(field, crop, rain);
            int ate = Math.min(get(GAME, field) / 4, grown);
            set(YIELD, field, grown - ate);
            set(ATE, field, ate);
            set(ATE_CROP, field, crop);
            if (crop >= 0 && crop <= CROPS) {
                set(WORN, field, Math.max(0, Math.min(20, get(WORN, field) + WEARS[crop])));
            }
        }
    }

    /** The holdings. What stands of one has the number that led() asks it by. */
    static final class Holdings {
        static final int KIND = 0;
        static final int SIZE = 1;
        static final int COIN = 2;
        static final int ARREARS = 3;
        static final int PUT = 4;
        static final int LAST = 5;
        static final int OVER = 6;
        static final int PAID = 7;
        static final int TONS = 8;
        static final int OUT = 9;
        static final int NOTICE = 10;
        static final int NUMBER = 11;
        static final int ROYALTY = 12;
        private static final int COLUMNS = 13;

        int size;
        private final int[] cells = new int[COLUMNS * HOLDINGS];

        void copyFrom(Holdings other) {
            size = other.size;
            System.arraycopy(other.cells, 0, cells, 0, COLUMNS * HOLDINGS);
        }

        int get(int what, int holding) {
            return isCell(what, holding) ? cells[what * HOLDINGS + holding] : 0;
        }

        void set(int what, int holding, int n) {
            if (isCell(what, holding)) {
                cells[what * HOLDINGS + holding] = n;
            }
        }

        private static boolean isCell(int what, int holding) {
            return what >= 0 && what < COLUMNS && holding >= 0 && holding < HOLDINGS;
        }

        void grow(int what, int holding, int n) {
            set(what, holding, capped((long) get(what, holding) + n));
        }

        /** A new holding of a kind, all else of it 0; NONE if there is no room. */
        int open(int kind) {
            if (size >= HOLDINGS) {
                return NONE;
            }
            for (int what = 0; what < COLUMNS; what++) {
                set(what, size, 0);
            }
            set(KIND, size, kind);
            set(LAST, size, NONE);
            size++;
            return size - 1;
        }

        static boolean isHand(int kind) {
            return kind == HAND || kind == WOOD;
        }

        boolean isLet(int holding) {
            return get(KIND, holding) == FARM || get(KIND, holding) == YEARLY;
        }

        boolean isOver(int holding) {
            return get(OVER, holding) != 0;
        }

        int goingOn() {
            int n = 0;
            for (int holding = 0; holding < size; holding++) {
                n += isOver(holding) ? 0 : 1;
            }
            return n;
        }

        int sumOf(int what) {
            long sum = 0;
            for (int holding = 0; holding < size; holding++) {
                sum += get(what, holding);
            }
            return capped(sum);
        }

        int ofRank(int rank) {
            for (int holding = 0; holding < size; holding++) {
                if (get(ARREARS, holding) > 0 && rankOf(holding) == rank) {
                    return holding;
                }
            }
            return NONE;
        }

        private int rankOf(int holding) {
            int ahead = 0;
            int mine = get(ARREARS, holding);
            for (int other = 0; other < size; other++) {
                int its = get(ARREARS, other);
                if (its > mine || its == mine && other < holding) {
                    ahead++;
                }
            }
            return ahead;
        }
    }

    /** Rain, and what was told of prices. */
    static final class Market {
        static final int NO_NUMBER = 99;
        private static final int TELLINGS = 200;
        private static final int AT_FIRST = 10;

        private int size;
        private final int[] rains = new int[LAST_YEAR + 1];
        private final int[] crops = new int[TELLINGS];
        private final int[] years = new int[TELLINGS];
        private final int[] numbers = new int[TELLINGS];
        private final int[] seasons = new int[TELLINGS];

        void copyFrom(Market other) {
            size = other.size;
            System.arraycopy(other.rains, 0, rains, 0, LAST_YEAR + 1);
            System.arraycopy(other.crops, 0, crops, 0, TELLINGS);
            System.arraycopy(other.years, 0, years, 0, TELLINGS);
            System.arraycopy(other.numbers, 0, numbers, 0, TELLINGS);
            System.arraycopy(other.seasons, 0, seasons, 0, TELLINGS);
        }

        void setRain(int year, int n) {
            rains[year] = n;
        }

        int rainOf(int year) {
            if (year >= 0 && year <= LAST_YEAR && rains[year] == NO_NUMBER) {
                return (toldRain(year - 1) + toldRain(year + 1)) / 2;
            }
            return toldRain(year);
        }

        private int toldRain(int year) {
            return year < 0 || year > LAST_YEAR || rains[year] == NO_NUMBER ? 0 : rains[year];
        }

        int tell(int crop, int year, int n, int season) {
            if (size >= TELLINGS) {
                return NONE;
            }
            crops[size] = crop;
            years[size] = year;
            numbers[size] = n;
            seasons[size] = season;
            size++;
            return size;
        }

        int priceAt(int crop, int year, int season) {
            for (int i = size - 1; i >= 0; i--) {
                if (crops[i] == crop && years[i] == year && seasons[i] <= season) {
                    return numbers[i];
                }
            }
            return AT_FIRST;
        }

        /** The prices of a year by all that was told till now; those of crops without one stay as they are. */
        void learnPrices(int year, int[] prices) {
            for (int crop = 1; crop < FALLOW && crop < prices.length; crop++) {
                prices[crop] = AT_FIRST;
            }
            for (int i = 0; i < size; i++) {
                int crop = crops[i];
                if (years[i] == year && crop >= 0 && crop < prices.length) {
                    prices[crop] = numbers[i];
                }
            }
        }
    }

    /** Coin of the estate, its loans, and what was wrong. */
    static final class Ledger {
        static final int LOANS = 12;
        static final int WRONGS_KEPT = 60;
        private static final int NOTES = 4;

        int income;
        int capital;
        private int harvests;
        private int charges;
        private int paidOut;
        private int reigns;
        int wrongs;
        private final int[] notes = new int[WRONGS_KEPT * NOTES];
        int loans;
        private final int[] rates = new int[LOANS];
        private final int[] parts = new int[LOANS];
        final int[] left = new int[LOANS];

        void copyFrom(Ledger other) {
            income = other.income;
            capital = other.capital;
            harvests = other.harvests;
            charges = other.charges;
            paidOut = other.paidOut;
            reigns = other.reigns;
            wrongs = other.wrongs;
            System.arraycopy(other.notes, 0, notes, 0, WRONGS_KEPT * NOTES);
            loans = other.loans;
            System.arraycopy(other.rates, 0, rates, 0, LOANS);
            System.arraycopy(other.parts, 0, parts, 0, LOANS);
            System.arraycopy(other.left, 0, left, 0, LOANS);
        }

        void addIncome(long coins) {
            income = capped(income + coins);
        }

        void addCapital(long coins) {
            capital = capped(capital + coins);
        }

        void addHarvest(int coins) {
            harvests = capped((long) harvests + coins);
        }

        void payCharges(int coins) {
            addIncome(-coins);
            charges = capped((long) charges + coins);
        }

        int passOn() {
            int coins = Math.max(0, income);
            income -= coins;
            paidOut = capped((long) paidOut + coins);
            reigns++;
            return coins;
        }

        /** The first 60 are kept, all are counted. */
        void note(int kind, int coins, int season) {
            if (wrongs < WRONGS_KEPT) {
                notes[wrongs * NOTES] = kind;
                notes[wrongs * NOTES + 1] = coins;
                notes[wrongs * NOTES + 2] = season;
                notes[wrongs * NOTES + 3] = reigns;
            }
            wrongs++;
        }

        int wrongNote(int n, int what) {
            return notes[n * NOTES + what];
        }

        int lend(int n, int rate, int years) {
            if (loans >= LOANS || years < 1) {
                return NONE;
            }
            rates[loans] = rate;
            parts[loans] = (n + years - 1) / years;
            left[loans] = n;
            addCapital(n);
            loans++;
            return loans - 1;
        }

        int owedInAll() {
            int sum = 0;
            for (int i = 0; i < loans; i++) {
                sum += left[i];
            }
            return sum;
        }

        void payLoans() {
            for (int i = 0; i < loans; i++) {
                long interest = ((long) left[i] * rates[i] + 9999) / 10000;
                int part = Math.min(parts[i], left[i]);
                addIncome(-interest - part);
                left[i] -= part;
            }
        }

        /** What count() asks of the ledger. */
        int told(int what) {
            switch (what) {
                case 2:
                    return income;
                case 3:
                    return capital;
                case 10:
                    return loans;
                case 11:
                    return owedInAll();
                case 12:
                    return reigns;
                case 13:
                    return wrongs;
                case 15:
                    return harvests;
                case 16:
                    return charges;
                case 18:
                    return paidOut;
                default:
                    return NONE;
            }
        }
    }

    /** Plans: works and troubles. */
    static final class Plan {
        private static final int JOBS = 6;
        private static final int TROUBLES = 4;
        private static final int SPAN = 30;

        private int jobs;
        private int troubles;
        private final int[] costs = new int[JOBS];
        private final int[] brings = new int[JOBS];
        private final int[] years = new int[JOBS];
        private final int[] firsts = new int[TROUBLES];
        private final int[] changes = new int[TROUBLES];

        void copyFrom(Plan other) {
            jobs = other.jobs;
            troubles = other.troubles;
            System.arraycopy(other.costs, 0, costs, 0, JOBS);
            System.arraycopy(other.brings, 0, brings, 0, JOBS);
            System.arraycopy(other.years, 0, years, 0, JOBS);
            System.arraycopy(other.firsts, 0, firsts, 0, TROUBLES);
            System.arraycopy(other.changes, 0, changes, 0, TROUBLES);
        }

        int addJob(int cost, int bring, int year) {
            if (jobs >= JOBS) {
                return NONE;
            }
            costs[jobs] = cost;
            brings[jobs] = bring;
            years[jobs] = year;
            jobs++;
            return jobs;
        }

        int addTrouble(int first, int change) {
            if (troubles >= TROUBLES) {
                return NONE;
            }
            firsts[troubles] = first;
            changes[troubles] = change;
            troubles++;
            return troubles;
        }

        int leastEnd(int coin, int charge, int set) {
            int least = troubles == 0 ? endOf(coin, -charge, 0, set) : endOf(coin, firsts[0] - charge, changes[0], set);
            for (int i = 1; i < troubles; i++) {
                least = Math.min(least, endOf(coin, firsts[i] - charge, changes[i], set));
            }
            return least;
        }

        /**
         * Coin at the end, or LOST if it is ever below 0. It is enough to look at each year's end:
         * charge and costs, which go last, only make it less.
         */
        private int endOf(int coin, int first, int change, int set) {
            int left = coin;
            for (int year = 0; year < SPAN; year++) {
                left += first + change * year + jobsIn(year, set);
                if (left < 0) {
                    return LOST;
                }
            }
            return left;
        }

        private int jobsIn(int year, int set) {
            int sum = 0;
            for (int i = 0; i < jobs; i++) {
                if ((set >> i & 1) != 0) {
                    sum += year > years[i] ? brings[i] : 0;
                    sum -= year == years[i] ? costs[i] : 0;
                }
            }
            return sum;
        }

        int bestSet(int coin, int charge) {
            int best = NONE;
            int most = LOST;
            for (int set = 0; set < 1 << jobs; set++) {
                int end = leastEnd(coin, charge, set);
                boolean fewer = best != NONE && Integer.bitCount(set) < Integer.bitCount(best);
                if (end > most || end == most && fewer) {
                    best = set;
                    most = end;
                }
            }
            return best;
        }
    }

    /** Yields of the latest summers: as they are seen, and as the summers brought them. */
    static final class Rows {
        private static final int MOST = 4;

        int size;
        final int[] seen = new int[MOST * FIELDS];
        private final int[] brought = new int[MOST * FIELDS];

        void copyFrom(Rows other) {
            size = other.size;
            System.arraycopy(other.seen, 0, seen, 0, MOST * FIELDS);
            System.arraycopy(other.brought, 0, brought, 0, MOST * FIELDS);
        }

        void add(Land land) {
            if (size >= MOST) {
                System.arraycopy(seen, FIELDS, seen, 0, (MOST - 1) * FIELDS);
                System.arraycopy(brought, FIELDS, brought, 0, (MOST - 1) * FIELDS);
                size = MOST - 1;
            }
            for (int field = 0; field < FIELDS; field++) {
                seen[size * FIELDS + field] = land.get(Land.YIELD, field);
                brought[size * FIELDS + field] = land.get(Land.YIELD, field);
            }
            size++;
        }

        int firstFalse() {
            for (int i = 0; i < size * FIELDS; i++) {
                if (seen[i] != brought[i]) {
                    return i;
                }
            }
            return NONE;
        }
    }

    /** All that an image keeps, and what is reckoned from more than one part of it. */
    static final class Estate {
        final Texts texts;
        final Words words = new Words();
        final Land land = new Land();
        final Holdings holdings = new Holdings();
        final Market market = new Market();
        final Ledger ledger = new Ledger();
        final Plan plan = new Plan();
        final Rows rows = new Rows();
        int season;
        private final int[] prices = new int[CROPS + 1];

        Estate(Texts texts) {
            this.texts = texts;
        }

        void copyFrom(Estate other) {
            words.copyFrom(other.words);
            land.copyFrom(other.land);
            holdings.copyFrom(other.holdings);
            market.copyFrom(other.market);
            ledger.copyFrom(other.ledger);
            plan.copyFrom(other.plan);
            rows.copyFrom(other.rows);
            season = other.season;
        }

        int kindAt(int field) {
            int holder = land.get(Land.HOLDER, field);
            return holder == NONE ? NONE : holdings.get(Holdings.KIND, holder);
        }

        void noteWrong(int kind, int coins) {
            ledger.note(kind, coins, season);
        }

        boolean isFree(int from, int to) {
            if (holdings.size >= HOLDINGS) {
                return false;
            }
            for (int field = 0; field < FIELDS; field++) {
                boolean taken = land.isSold(field) || land.get(Land.HOLDER, field) != NONE;
                if (taken && Land.isWithin(field, from, to)) {
                    return false;
                }
            }
            return true;
        }

        int openLease(int from, int to, int years, int coin) {
            int holding = openOn(from, to, years > 0 ? FARM : YEARLY);
            if (holding != NONE) {
                holdings.set(Holdings.COIN, holding, coin);
                holdings.set(Holdings.LAST, holding, years > 0 ? 4 * (season / 4 + years) - 1 : NONE);
            }
            return holding;
        }

        int openKept(int from, int to, int kind, int number, int other) {
            int holding = openOn(from, to, kind);
            if (holding != NONE) {
                holdings.set(Holdings.NUMBER, holding, number);
                holdings.set(Holdings.ROYALTY, holding, other);
            }
            return holding;
        }

        private int openOn(int from, int to, int kind) {
            int holding = holdings.open(kind);
            if (holding == NONE) {
                return NONE;
            }
            for (int field = 0; field < FIELDS; field++) {
                if (Land.isWithin(field, from, to)) {
                    land.set(Land.HOLDER, field, holding);
                    holdings.grow(Holdings.SIZE, holding, 1);
                }
            }
            return holding;
        }

        /** The holding is over: its fields are of none, without crops. */
        void close(int holding) {
            for (int field = 0; field < FIELDS; field++) {
                if (land.get(Land.HOLDER, field) == holding) {
                    land.set(Land.HOLDER, field, NONE);
                    land.set(Land.CROP, field, 0);
                }
            }
            holdings.set(Holdings.SIZE, holding, 0);
            holdings.set(Holdings.OVER, holding, 1);
        }

        void learnPrices() {
            market.learnPrices(season / 4, prices);
        }

        /** The price of this year as it was learnt; fallow and no crop have 0. */
        int priceOf(int crop) {
            return crop >= 0 && crop <= CROPS ? prices[crop] : 0;
        }

        private void learnFacts(int coin, int arrears) {
            market.learnPrices(season / 4, prices);
            texts.fact[Texts.YEAR] = season / 4;
            for (int crop = 1; crop < FALLOW; crop++) {
                texts.fact[crop] = prices[crop];
            }
            for (int fact = Texts.AGE; fact <= Texts.SOIL; fact++) {
                texts.fact[fact] = 0;
            }
            texts.fact[Texts.COIN] = coin;
            texts.fact[Texts.ARREARS] = arrears;
        }

        private void learnFactsOfEstate() {
            learnFacts(ledger.income, 0);
        }

        void learnFactsOfTenant(int holding) {
            learnFacts(holdings.get(Holdings.COIN, holding), holdings.get(Holdings.ARREARS, holding));
        }

        private void learnFactsOfField(int field) {
            texts.fact[Texts.AGE] = land.get(Land.AGE, field);
            texts.fact[Texts.WORN] = land.get(Land.WORN, field);
            texts.fact[Texts.WET] = land.get(Land.WET, field);
            texts.fact[Texts.SOIL] = land.get(Land.SOIL, field);
        }

        int lastLine(int verb, int thing) {
            return words.lastLine(texts, season, verb, thing);
        }

        int yearsLet() {
            return texts.numberOf(lastLine(Texts.YEARS, 0));
        }

        int mostBorrowed() {
            return texts.numberOf(lastLine(Texts.BORROW, 0));
        }

        int partOf(int thing) {
            return texts.numberOf(words.lastLine(texts, season, Texts.PART, thing));
        }

        /** The first fell or sell line in force that holds for a field; NONE. */
        int lineThatLets(int verb, int field) {
            learnFactsOfEstate();
            learnFactsOfField(field);
            return words.firstHolding(texts, season, verb);
        }

        int firstCharge() {
            learnFactsOfEstate();
            return words.firstHolding(texts, season, Texts.CHARGE);
        }

        int chargesNow() {
            learnFactsOfEstate();
            return words.sumHolding(texts, season, Texts.CHARGE);
        }

        /** Coins that come of a thing: its part is capital, the rest income. */
        void takeIn(int thing, int coins) {
            long part = (long) coins * partOf(thing) / 100;
            ledger.addCapital(part);
            ledger.addIncome(coins - part);
        }

        boolean payWork(int thing, int coins) {
            int part = coins * partOf(thing) / 100;
            int rest = coins - part;
            if (part > 0 && ledger.capital < part || rest > 0 && ledger.income < rest) {
                return false;
            }
            ledger.addCapital(-part);
            ledger.addIncome(-rest);
            return true;
        }

        int rentOf(int holding) {
            learnFactsOfTenant(holding);
            long sum = 0;
            for (int i = 0; i < texts.lines[holding]; i++) {
                int line = holding * LINES + i;
                if (texts.verb[line] == Texts.RENT && texts.holds(line)) {
                    sum += texts.number[line];
                }
                if (texts.verb[line] == Texts.CORN) {
                    sum += (long) texts.number[line] * priceOf(texts.first[line]);
                }
            }
            return capped(sum);
        }

        int owedTo(int holding) {
            learnFactsOfTenant(holding);
            long sum = 0;
            for (int field = 0; field < FIELDS; field++) {
                if (land.get(Land.HOLDER, field) == holding) {
                    learnFactsOfField(field);
                    sum += owedFor(holding, field);
                }
            }
            return Math.max(0, capped(sum));
        }

        private long owedFor(int holding, int field) {
            long sum = 0;
            for (int i = 0; i < texts.lines[holding]; i++) {
                int line = holding * LINES + i;
                if (texts.verb[line] == Texts.OWE) {
                    int thing = texts.first[line] == Texts.LIME ? Land.LIME : Land.DRAIN;
                    sum += (long) texts.number[line] * land.get(thing, field);
                }
                if (texts.verb[line] == Texts.WASTE && texts.holds(line)) {
                    sum -= texts.number[line];
                }
            }
            return sum;
        }

        int bestSale(int from, int n, int coin) {
            int eligible = 0;
            for (int i = 0; i < n; i++) {
                boolean may = !land.isSold(from + i) && lineThatLets(Texts.SELL, from + i) != NONE;
                eligible |= may ? 1 << i : 0;
            }
            int best = NONE;
            int fewest = 0;
            int least = 0;
            for (int set = 0; set < 1 << n; set++) {
                int worth = worthTogether(from, set);
                if ((set & ~eligible) == 0 && worth >= coin) {
                    int parted = partedPairs(from, set);
                    if (best == NONE || parted < fewest || parted == fewest && worth < least) {
                        best = set;
                        fewest = parted;
                        least = worth;
                    }
                }
            }
            return best;
        }

        private static boolean isIn(int field, int from, int set) {
            int bit = field - from;
            return bit >= 0 && bit < 8 && (set >> bit & 1) != 0;
        }

        private int worthTogether(int from, int set) {
            int sum = 0;
            for (int field = from; field < from + 8 && field < FIELDS; field++) {
                sum += isIn(field, from, set) ? land.worthOf(field) : 0;
            }
            return sum;
        }

        private int partedPairs(int from, int set) {
            int pairs = 0;
            for (int field = from; field < from + 8 && field < FIELDS; field++) {
                for (int side = 0; side < SIDES && isIn(field, from, set); side++) {
                    int next = Land.beside(field, side);
                    if (next != NONE && !land.isSold(next) && !isIn(next, from, set)) {
                        pairs++;
                    }
                }
            }
            return pairs;
        }
    }

    /** What ends each season. */
    static final class Year {
        private final Estate estate;
        private final Land land;
        private final Holdings holdings;
        private final Ledger ledger;
        private final Texts texts;

        Year(Estate estate) {
            this.estate = estate;
            land = estate.land;
            holdings = estate.holdings;
            ledger = estate.ledger;
            texts = estate.texts;
        }

        void pass() {
            estate.learnPrices();
            switch (estate.season % 4) {
                case 0:
                    spring();
                    break;
                case 1:
                    summer();
                    break;
                case 2:
                    autumn();
                    break;
                default:
                    breedGame();
                    growOlder();
                    digMines();
                    ledger.payLoans();
                    ledger.payCharges(estate.chargesNow());
                    endLeases();
                    break;
            }
            estate.season++;
        }

        private void spring() {
            for (int field = 0; field < FIELDS; field++) {
                int kind = estate.kindAt(field);
                if (kind == FARM || kind == YEARLY) {
                    land.set(Land.CROP, field, chosenCrop(land.get(Land.HOLDER, field), field));
                } else if (!Holdings.isHand(kind)) {
                    land.set(Land.CROP, field, 0);
                }
            }
        }

        private int chosenCrop(int holding, int field) {
            int chosen = FALLOW;
            int most = NONE;
            for (int crop = 1; crop <= CROPS; crop++) {
                int hope = estate.priceOf(crop) * land.growthOf(field, crop, 0);
                if (hope > most && !isBarred(holding, crop, land.get(Land.CROP, field))) {
                    chosen = crop;
                    most = hope;
                }
            }
            return chosen;
        }

        private boolean isBarred(int holding, int crop, int after) {
            for (int i = 0; i < texts.lines[holding]; i++) {
                int line = holding * LINES + i;
                if (texts.verb[line] == Texts.BAR && texts.first[line] == crop && texts.second[line] == after) {
                    return true;
                }
            }
            return false;
        }

        private void summer() {
            int rain = estate.market.rainOf(estate.season / 4);
            for (int field = 0; field < FIELDS; field++) {
                land.harvest(field, rain);
                sellHarvest(field);
            }
            estate.rows.add(land);
        }

        private void sellHarvest(int field) {
            int holding = land.get(Land.HOLDER, field);
            if (holding == NONE) {
                return;
            }
            int coins = land.get(Land.YIELD, field) * estate.priceOf(land.get(Land.CROP, field));
            ledger.addHarvest(coins);
            if (holdings.isLet(holding)) {
                holdings.grow(Holdings.COIN, holding, coins);
            } else {
                ledger.addIncome(coins);
                holdings.grow(Holdings.PAID, holding, coins);
            }
        }

        private void autumn() {
            for (int holding = 0; holding < holdings.size; holding++) {
                if (!holdings.isOver(holding) && holdings.isLet(holding)) {
                    takeRent(holding);
                } else if (!holdings.isOver(holding) && holdings.get(Holdings.KIND, holding) == COTTAGE) {
                    receive(holding, holdings.get(Holdings.NUMBER, holding));
                }
            }
        }

        private void receive(int holding, int coins) {
            holdings.grow(Holdings.PAID, holding, coins);
            ledger.addIncome(coins);
        }

        private void takeRent(int holding) {
            int rent = Math.max(0, estate.rentOf(holding) - harmOfGame(holding));
            int hundredths = hundredthsPut(holding);
            int due;
            if (hundredths == NONE) {
                due = capped((long) rent + holdings.get(Holdings.PUT, holding));
                holdings.set(Holdings.PUT, holding, 0);
            } else {
                int off = (int) ((long) rent * hundredths / 100);
                due = rent - off;
                holdings.grow(Holdings.PUT, holding, off);
            }
            int owed = capped((long) holdings.get(Holdings.ARREARS, holding) + due);
            int paid = Math.min(owed, Math.max(0, holdings.get(Holdings.COIN, holding)));
            holdings.grow(Holdings.COIN, holding, -paid);
            holdings.set(Holdings.ARREARS, holding, owed - paid);
            receive(holding, paid);
        }

        private int harmOfGame(int holding) {
            int line = texts.lastIn(holding, Texts.GAME, 0);
            if (line == NONE) {
                return 0;
            }
            int eaten = 0;
            for (int field = 0; field < FIELDS; field++) {
                if (land.get(Land.HOLDER, field) == holding) {
                    eaten += land.get(Land.ATE, field) * estate.priceOf(land.get(Land.ATE_CROP, field));
                }
            }
            return eaten * texts.number[line] / 100;
        }

        /** The greatest number of the put lines that hold; NONE if none does. */
        private int hundredthsPut(int holding) {
            estate.learnFactsOfTenant(holding);
            int most = NONE;
            for (int i = 0; i < texts.lines[holding]; i++) {
                int line = holding * LINES + i;
                if (texts.verb[line] == Texts.PUT && texts.holds(line)) {
                    most = Math.max(most, texts.number[line]);
                }
            }
            return most;
        }

        private void digMines() {
            for (int holding = 0; holding < holdings.size; holding++) {
                if (holdings.get(Holdings.KIND, holding) == MINE && !holdings.isOver(holding)) {
                    dig(holding);
                }
            }
        }

        private void endLeases() {
            for (int holding = 0; holding < holdings.size; holding++) {
                if (isAtItsEnd(holding)) {
                    goOut(holding);
                }
            }
        }

        private void breedGame() {
            for (int field = 0; field < FIELDS; field++) {
                int game = land.get(Land.GAME, field);
                if (estate.kindAt(field) == WOOD) {
                    land.set(Land.GAME, field, Math.min(99, game + (game + 1) / 2));
                } else if (isBesideWood(field) && !land.isSold(field)) {
                    land.set(Land.GAME, field, Math.min(99, game + 1));
                }
            }
        }

        private boolean isBesideWood(int field) {
            for (int side = 0; side < SIDES; side++) {
                int next = Land.beside(field, side);
                if (next != NONE && estate.kindAt(next) == WOOD) {
                    return true;
                }
            }
            return false;
        }

        private void growOlder() {
            for (int field = 0; field < FIELDS; field++) {
                if (!land.isSold(field)) {
                    int older = estate.kindAt(field) == WOOD ? 1 : 0;
                    land.set(Land.AGE, field, land.get(Land.AGE, field) + older);
                    land.set(Land.DRAIN, field, Math.max(0, land.get(Land.DRAIN, field) - 1));
                    land.set(Land.LIME, field, Math.max(0, land.get(Land.LIME, field) - 1));
                }
            }
        }

        private void dig(int holding) {
            int tons = holdings.get(Holdings.NUMBER, holding);
            int coins = tons * holdings.get(Holdings.ROYALTY, holding);
            int before = holdings.get(Holdings.TONS, holding) / 100;
            holdings.grow(Holdings.TONS, holding, tons);
            holdings.grow(Holdings.PAID, holding, coins);
            estate.takeIn(Texts.MINE_THING, coins);
            int fields = holdings.get(Holdings.SIZE, holding);
            for (int turn = before; turn < holdings.get(Holdings.TONS, holding) / 100 && fields > 0; turn++) {
                sink(holding, turn % fields);
            }
        }

        private void sink(int holding, int turn) {
            int seen = 0;
            for (int field = 0; field < FIELDS; field++) {
                if (land.get(Land.HOLDER, field) == holding) {
                    if (seen == turn) {
                        land.set(Land.SUNK, field, Math.min(9, land.get(Land.SUNK, field) + 1));
                    }
                    seen++;
                }
            }
        }

        private boolean isAtItsEnd(int holding) {
            if (holdings.isOver(holding)) {
                return false;
            }
            int kind = holdings.get(Holdings.KIND, holding);
            return kind == FARM && holdings.get(Holdings.LAST, holding) <= estate.season
                    || kind == YEARLY && holdings.get(Holdings.NOTICE, holding) != 0;
        }

        private void goOut(int holding) {
            long held = (long) holdings.get(Holdings.ARREARS, holding) + holdings.get(Holdings.PUT, holding);
            int paid = (int) Math.max(0, estate.owedTo(holding) - held);
            ledger.addIncome(-paid);
            holdings.set(Holdings.OUT, holding, paid);
            holdings.set(Holdings.ARREARS, holding, 0);
            holdings.set(Holdings.PUT, holding, 0);
            estate.close(holding);
        }
    }
}
