import java.util.NoSuchElementException;

/**
 * A great estate under one owner for life and one agent. The face below asks its numbers and throws;
 * the classes inside it hold the state and reckon, and never throw.
 */
public final class GreatEstate {
    public static final int NONE = -1;

    private static final int FIELDS = 48;
    private static final int WIDE = 8;
    private static final int SIDES = 4;
    private static final int HOLDINGS = 24;
    private static final int ACTS = 12;
    private static final int LINES = 16;
    private static final int TAPE = 400;
    private static final int LAST_SEASON = 400;
    private static final int LAST_YEAR = 100;
    private static final int CROPS = 5;
    private static final int FALLOW = 5;

    private static final int FARM = 0;
    private static final int YEARLY = 1;
    private static final int HAND = 2;
    private static final int WOOD = 3;
    private static final int MINE = 4;
    private static final int COTTAGE = 5;

    private static final int WRONG_LET = 0;
    private static final int WRONG_FELLED = 1;
    private static final int WRONG_LENT = 2;
    private static final int WRONG_SOLD = 3;

    private static final long MOST_COIN = 2000000000L;
    private static final int LOST = -1000000000;

    private final Reader reader;
    private final Estate now;
    private final Year passing;
    private Estate kept;

    public GreatEstate() {
        reader = new Reader();
        now = new Estate();
        passing = new Year(now);
    }

    public int feed(int a, int b, int c, int d, int e) {
        if (reader.fed + 20 > TAPE) {
            return NONE;
        }
        reader.addBytes(a);
        reader.addBytes(b);
        reader.addBytes(c);
        reader.addBytes(d);
        reader.addBytes(e);
        return reader.fed;
    }

    public boolean end(int n) {
        if (n < 0 || n > reader.fed) {
            return false;
        }
        reader.fed = n;
        return true;
    }

    public boolean field(int field, int soil, int wet, int worn, int game, int age)
            throws IndexOutOfBoundsException, IllegalArgumentException {
        needField(field);
        needWithin(soil, 0, 9);
        needWithin(wet, 0, 9);
        needWithin(worn, 0, 20);
        needWithin(game, 0, 99);
        needWithin(age, 0, 300);
        if (now.land.isSold(field)) {
            return false;
        }
        now.land.set(Land.SOIL, field, soil);
        now.land.set(Land.WET, field, wet);
        now.land.set(Land.WORN, field, worn);
        now.land.set(Land.GAME, field, game);
        now.land.set(Land.AGE, field, age);
        return true;
    }

    public void rain(int year, int n, boolean is) throws IllegalArgumentException {
        needWithin(year, 0, LAST_YEAR);
        if (is) {
            needWithin(n, -5, 5);
        }
        now.market.setRain(year, is ? n : Market.NO_NUMBER);
    }

    public int fell(int year) throws IllegalArgumentException {
        needWithin(year, 0, LAST_YEAR);
        return now.market.rainOf(year);
    }

    public int price(int crop, int year, int n) throws IllegalArgumentException {
        needWithin(crop, 1, 4);
        needWithin(year, 0, LAST_YEAR);
        needWithin(n, 0, 100);
        return now.market.tell(crop, year, n, now.season);
    }

    public int known(int crop, int year, int season) throws IllegalArgumentException {
        needWithin(crop, 1, 4);
        needWithin(year, 0, LAST_YEAR);
        return now.market.priceAt(crop, year, season);
    }

    public int let(int from, int to, int years, int coin, boolean forced)
            throws IndexOutOfBoundsException, IllegalArgumentException {
        reader.useTape();
        needField(from);
        needField(to);
        needWithin(years, 0, 99);
        needWithin(coin, 0, 100000);
        needText(reader.read(true));
        boolean rightful = years <= now.yearsLet();
        if (!now.isFree(from, to) || !(rightful || forced)) {
            return NONE;
        }
        if (!rightful) {
            now.noteWrong(WRONG_LET, 0);
        }
        int holding = now.openLease(from, to, years, coin);
        now.holdings.setLease(holding, reader.newText());
        return holding;
    }

    public int keep(int from, int to, int kind, int number, int other)
            throws IndexOutOfBoundsException, IllegalArgumentException {
        needField(from);
        needField(to);
        needWithin(kind, HAND, COTTAGE);
        if (kind == MINE) {
            needWithin(number, 0, 2000);
            needWithin(other, 0, 100);
        }
        if (kind == COTTAGE) {
            needWithin(number, 0, 1000);
        }
        if (!now.isFree(from, to)) {
            return NONE;
        }
        return now.openKept(from, to, kind, number, other);
    }

    public boolean sow(int field, int crop)
            throws IndexOutOfBoundsException, IllegalArgumentException, ClassCastException {
        needField(field);
        needWithin(crop, 0, CROPS);
        needKind(Holdings.isHand(now.kindAt(field)));
        boolean another = now.land.get(Land.CROP, field) != crop;
        now.land.set(Land.CROP, field, crop);
        return another;
    }

    public boolean notice(int holding) throws IndexOutOfBoundsException, ClassCastException {
        needHolding(holding);
        needKind(now.holdings.get(Holdings.KIND, holding) == YEARLY);
        boolean first = now.holdings.get(Holdings.NOTICE, holding) == 0;
        now.holdings.set(Holdings.NOTICE, holding, 1);
        return first;
    }

    public int give(int holding) throws IndexOutOfBoundsException, ClassCastException {
        needHolding(holding);
        needKind(!now.holdings.isLet(holding));
        int fields = now.holdings.get(Holdings.SIZE, holding);
        now.close(holding);
        return fields;
    }

    public int seasons(int n) throws IllegalArgumentException {
        needWithin(n, 0, 40);
        for (int i = 0; i < n && now.season < LAST_SEASON; i++) {
            passing.pass();
        }
        return now.season;
    }

    public int look(int field, int what) throws IndexOutOfBoundsException, NoSuchElementException {
        needField(field);
        needKnown(what >= 0 && what <= 12);
        return what == 12 ? now.land.worthOf(field) : now.land.get(what, field);
    }

    public int led(int holding, int what) throws IndexOutOfBoundsException, NoSuchElementException {
        needHolding(holding);
        needKnown(what >= 0 && what <= 10);
        return now.holdings.get(what, holding);
    }

    public int owed(int holding) throws IndexOutOfBoundsException, ClassCastException {
        needHolding(holding);
        needKind(now.holdings.isLet(holding));
        return now.owedTo(holding);
    }

    public int rent(int holding) throws IndexOutOfBoundsException, ClassCastException {
        needHolding(holding);
        needKind(now.holdings.isLet(holding));
        return now.rentOf(holding);
    }

    public int arrears(int n) {
        return now.holdings.ofRank(n);
    }

    public int words(int season) throws IllegalArgumentException, UnsupportedOperationException {
        reader.useTape();
        needWithin(season, now.season, LAST_SEASON);
        needText(reader.read(false));
        needRoom(now.words.size < ACTS);
        Text text = reader.newText();
        now.words.add(text, season);
        return text.lines;
    }

    public int fault() {
        return reader.fault;
    }

    public int may(int what, int field) throws IndexOutOfBoundsException, NoSuchElementException {
        needField(field);
        needKnown(what >= 0 && what <= 9);
        switch (what) {
            case 0:
                return now.yearsLet();
            case 1:
                return now.lineThatLets(Text.FELL, field) != NONE ? 1 : 0;
            case 2:
                return now.mostBorrowed();
            case 3:
                return now.lineThatLets(Text.SELL, field) != NONE ? 1 : 0;
            case 4:
                return now.chargesNow();
            default:
                return now.partOf(Text.LIME + what - 5);
        }
    }

    public int why(int what, int field) throws IndexOutOfBoundsException, NoSuchElementException {
        needField(field);
        needKnown(what >= 0 && what <= 4);
        switch (what) {
            case 0:
                return now.lastLine(Text.YEARS, 0);
            case 1:
                return now.lineThatLets(Text.FELL, field);
            case 2:
                return now.lastLine(Text.BORROW, 0);
            case 3:
                return now.lineThatLets(Text.SELL, field);
            default:
                return now.firstCharge();
        }
    }

    public int cut(int field, boolean forced) throws IndexOutOfBoundsException, ClassCastException {
        needField(field);
        needKind(now.kindAt(field) == WOOD);
        boolean rightful = now.lineThatLets(Text.FELL, field) != NONE;
        if (!rightful && !forced) {
            return NONE;
        }
        int coins = now.land.timberOf(field);
        if (!rightful) {
            now.noteWrong(WRONG_FELLED, coins);
        }
        now.takeIn(Text.WOOD_THING, coins);
        now.land.set(Land.AGE, field, 0);
        return coins;
    }

    public int loan(int n, int rate, int years, boolean forced)
            throws IllegalArgumentException, UnsupportedOperationException {
        needWithin(n, 1, 100000);
        needWithin(rate, 0, 2000);
        needWithin(years, 1, 40);
        needRoom(now.ledger.loans < Ledger.LOANS);
        boolean rightful = now.ledger.owedInAll() + n <= now.mostBorrowed();
        if (!rightful && !forced) {
            return NONE;
        }
        if (!rightful) {
            now.noteWrong(WRONG_LENT, n);
        }
        return now.ledger.lend(n, rate, years);
    }

    public int owing(int loan) throws IndexOutOfBoundsException {
        needIndex(loan, now.ledger.loans);
        return now.ledger.left[loan];
    }

    public boolean work(int field, boolean lime) throws IndexOutOfBoundsException {
        needField(field);
        int thing = lime ? Text.LIME : Text.DRAIN;
        if (now.land.isSold(field) || !now.payWork(thing, lime ? 8 : 30)) {
            return false;
        }
        now.land.set(lime ? Land.LIME : Land.DRAIN, field, lime ? 6 : 20);
        return true;
    }

    public int sell(int field, boolean forced) throws IndexOutOfBoundsException {
        needField(field);
        if (now.land.isSold(field) || now.land.get(Land.HOLDER, field) != NONE) {
            return NONE;
        }
        boolean rightful = now.lineThatLets(Text.SELL, field) != NONE;
        if (!rightful && !forced) {
            return NONE;
        }
        int coins = now.land.worthOf(field);
        if (!rightful) {
            now.noteWrong(WRONG_SOLD, coins);
        }
        now.takeIn(Text.LAND_THING, coins);
        now.land.set(Land.SOLD, field, 1);
        return coins;
    }

    public int heir() {
        return now.ledger.passOn();
    }

    public int wrong(int n, int what) throws NoSuchElementException {
        needKnown(n >= 0 && n < Math.min(now.ledger.wrongs, Ledger.WRONGS_KEPT));
        needKnown(what >= 0 && what <= 3);
        return now.ledger.wrongNote(n, what);
    }

    public int job(int cost, int brings, int year) throws IllegalArgumentException {
        needWithin(cost, 0, 100000);
        needWithin(brings, 0, 10000);
        needWithin(year, 0, 29);
        return now.plan.addJob(cost, brings, year);
    }

    public int trouble(int first, int change) throws IllegalArgumentException {
        needWithin(first, -100000, 100000);
        needWithin(change, -1000, 1000);
        return now.plan.addTrouble(first, change);
    }

    public int worth(int coin, int charge, int set) throws IllegalArgumentException {
        needWithin(coin, 0, 1000000);
        needWithin(charge, 0, 100000);
        return now.plan.leastEnd(coin, charge, set);
    }

    public int best(int coin, int charge) throws IllegalArgumentException {
        needWithin(coin, 0, 1000000);
        needWithin(charge, 0, 100000);
        return now.plan.bestSet(coin, charge);
    }

    public int toSell(int from, int n, int coin) throws IndexOutOfBoundsException, IllegalArgumentException {
        needField(from);
        needWithin(n, 1, 8);
        needWithin(from + n, 1, FIELDS);
        needWithin(coin, 0, 100000);
        return now.bestSale(from, n, coin);
    }

    public int row(int i, int field) throws IndexOutOfBoundsException, NoSuchElementException {
        needField(field);
        needKnown(i >= 0 && i < now.rows.size);
        return now.rows.seen[i * FIELDS + field];
    }

    public int tear(int i, int field, int mask) throws IndexOutOfBoundsException, NoSuchElementException {
        needField(field);
        needKnown(i >= 0 && i < now.rows.size);
        now.rows.seen[i * FIELDS + field] ^= mask;
        return now.rows.seen[i * FIELDS + field];
    }

    public int check() {
        return now.rows.firstFalse();
    }

    public void image() {
        if (kept == null) {
            kept = new Estate();
        }
        kept.copyFrom(now);
    }

    public boolean back() {
        if (kept == null) {
            return false;
        }
        now.copyFrom(kept);
        return true;
    }

    public int count(int what) {
        switch (what) {
            case 0:
                return now.season;
            case 1:
                return now.season / 4;
            case 4:
                return now.holdings.size;
            case 5:
                return now.holdings.goingOn();
            case 6:
                return now.holdings.sumOf(Holdings.ARREARS);
            case 7:
                return now.holdings.sumOf(Holdings.PUT);
            case 8:
                return now.words.size;
            case 9:
                return now.words.linesInForce(now.season);
            case 14:
                return now.land.soldFields();
            case 17:
                return now.rows.size;
            default:
                return now.ledger.told(what);
        }
    }

    private static void needIndex(int i, int size) {
        if (i < 0 || i >= size) {
            throw new IndexOutOfBoundsException("there is none such");
        }
    }

    private static void needField(int field) {
        needIndex(field, FIELDS);
    }

    private void needHolding(int holding) {
        needIndex(holding, now.holdings.size);
    }

    private static void needWithin(int n, int least, int most) {
        if (n < least || n > most) {
            throw new IllegalArgumentException("a number is out of its bounds");
        }
    }

    private static void needText(boolean right) {
        if (!right) {
            throw new IllegalArgumentException("the text is wrong");
        }
    }

    private static void needKind(boolean fits) {
        if (!fits) {
            throw new ClassCastException("the HOLDING is of another kind");
        }
    }

    private static void needKnown(boolean is) {
        if (!is) {
            throw new NoSuchElementException("there is none such");
        }
    }

    private static void needRoom(boolean is) {
        if (!is) {
            throw new UnsupportedOperationException("there are 12");
        }
    }

    /** What would be beyond the bounds of a sum of coin is lost. */
    private static int capped(long sum) {
        return (int) Math.max(-MOST_COIN, Math.min(MOST_COIN, sum));
    }

    /** A text that was read: its lines, and behind them the codes of all their conditions. It never changes. */
    static final class Text {
        // The numbers of the words of Reader.DICTIONARY.
        static final int YEAR = 0;
        static final int WHEAT = 1;
        static final int GRASS = 4;
        static final int AGE = 5;
        static final int WORN = 6;
        static final int WET = 7;
        static final int SOIL = 8;
        static final int COIN = 9;
        static final int ARREARS = 10;
        static final int FALLOW_WORD = 11;
        static final int LIME = 12;
        static final int DRAIN = 13;
        static final int WOOD_THING = 14;
        static final int MINE_THING = 15;
        static final int LAND_THING = 16;
        static final int YEARS = 17;
        static final int FELL = 18;
        static final int BORROW = 19;
        static final int SELL = 20;
        static final int PART = 21;
        static final int CHARGE = 22;
        static final int STRIKE = 23;
        static final int RENT = 24;
        static final int CORN = 25;
        static final int BAR = 26;
        static final int OWE = 27;
        static final int WASTE = 28;
        static final int PUT = 29;
        static final int GAME = 30;
        static final int IF = 31;
        static final int OF = 32;
        static final int AFTER = 33;
        static final int AND_WORD = 34;
        static final int OR_WORD = 35;
        static final int NOT_WORD = 36;

        // Codes of a condition, each behind what it works on: a number is itself, a fact f is -1 - f.
        static final int ADD = -12;
        static final int LESS = -13;
        static final int MORE = -14;
        static final int NOT = -15;
        static final int AND = -16;
        static final int OR = -17;

        // What stands of a line.
        static final int VERB = 0;
        static final int NUMBER = 1;
        static final int FIRST = 2;
        static final int SECOND = 3;
        static final int CODES_FROM = 4;
        static final int CODES_TO = 5;
        static final int LINE_CELLS = 6;

        // Facts, and behind them the room in which a condition is reckoned: 6 deep it needs less than 20.
        static final int FACTS = ARREARS + 1;
        static final int FACTS_AND_ROOM = FACTS + 40;

        final int lines;
        private final int[] cells;

        /** A text without lines. */
        Text() {
            lines = 0;
            cells = new int[0];
        }

        Text(int lines, int[] cells) {
            this.lines = lines;
            this.cells = cells;
        }

        int get(int what, int line) {
            return line >= 0 && line < lines && what >= 0 && what < LINE_CELLS ? cells[LINE_CELLS * line + what] : 0;
        }

        /** Whether the condition of a line holds by the facts; a line without one always does. */
        boolean holds(int line, long[] facts) {
            int to = LINE_CELLS * lines + get(CODES_TO, line);
            int top = FACTS;
            for (int i = LINE_CELLS * lines + get(CODES_FROM, line); i < to && i < cells.length; i++) {
                top = step(cells[i], top, facts);
            }
            return top <= FACTS || facts[FACTS] != 0;
        }

        private static int step(int op, int top, long[] facts) {
            if (op > ADD) {
                if (top < FACTS || top >= facts.length) {
                    return top;
                }
                facts[top] = op >= 0 ? op : facts[-1 - op];
                return top + 1;
            }
            if (top < FACTS + (op == NOT ? 1 : 2) || top > facts.length) {
                return top;
            }
            long last = facts[top - 1];
            if (op == NOT) {
                facts[top - 1] = 1 - last;
                return top;
            }
            long ahead = facts[top - 2];
            if (op == ADD) {
                facts[top - 2] = ahead + last;
            } else if (op == AND) {
                facts[top - 2] = ahead & last;
            } else if (op == OR) {
                facts[top - 2] = ahead | last;
            } else {
                facts[top - 2] = (op == LESS ? ahead < last : ahead > last) ? 1 : 0;
            }
            return top - 1;
        }

        /** The last line of a verb (and of a thing, 0 where the verb has none); NONE. */
        int lastOf(int verb, int thing) {
            for (int line = lines - 1; line >= 0; line--) {
                if (get(VERB, line) == verb && get(FIRST, line) == thing) {
                    return line;
                }
            }
            return NONE;
        }

        int firstHolding(int verb, long[] facts) {
            for (int line = 0; line < lines; line++) {
                if (get(VERB, line) == verb && holds(line, facts)) {
                    return line;
                }
            }
            return NONE;
        }

        int sumHolding(int verb, long[] facts) {
            int sum = 0;
            for (int line = 0; line < lines; line++) {
                if (get(VERB, line) == verb && holds(line, facts)) {
                    sum += get(NUMBER, line);
                }
            }
            return sum;
        }
    }

    /** Has the TAPE, and reads a text from it into a draft, token by token. */
    static final class Reader {
        private static final String DICTIONARY = "year wheat barley turnips grass age worn wet soil coin arrears fallow lime drain wood mine land years fell borrow sell part charge strike rent corn bar owe waste put game if of after and or not";
        private static final int END = 0;
        private static final int WORD = 1;
        private static final int NUMBER = 2;
        private static final int SIGN = 3;
        private static final int DEEPEST = 6;
        private static final int MOST = 999999;
        private static final int DRAFT_CODES = Text.LINE_CELLS * LINES;

        private final byte[] tape = new byte[TAPE];
        int fed;
        int fault = NONE;
        private int length;
        private int at;
        private int start;
        private int kind;
        private int value;
        private final int[] draft = new int[DRAFT_CODES + TAPE];
        private int lines;
        private int codes;
        private int verb;

        void addBytes(int four) {
            for (int shift = 24; shift >= 0 && fed < TAPE; shift -= 8) {
                tape[fed] = (byte) (four >> shift);
                fed++;
            }
        }

        /** The TAPE is empty then; what it had is the text to be read. */
        void useTape() {
            length = fed;
            fed = 0;
        }

        /** Whether the text is right; if not, fault is where the token begins that cannot stand there. */
        boolean read(boolean lease) {
            at = 0;
            lines = 0;
            codes = 0;
            next();
            boolean right = takeLines(lease);
            fault = right ? NONE : start;
            return right;
        }

        /** The text that was read last, if it was right. The draft has room for 16 lines ahead of its codes. */
        Text newText() {
            int size = Text.LINE_CELLS * lines;
            if (size <= 0 || size > DRAFT_CODES || codes < 0 || codes > TAPE) {
                return new Text();
            }
            int[] cells = new int[size + codes];
            System.arraycopy(draft, 0, cells, 0, size);
            System.arraycopy(draft, DRAFT_CODES, cells, size, codes);
            return new Text(lines, cells);
        }

        private boolean takeLines(boolean lease) {
            if (kind == END) {
                return true;
            }
            for (int i = 0; i < LINES; i++) {
                if (!takeVerb(lease) || !(lease ? takeRestOfLease() : takeRestOfAct())) {
                    return false;
                }
                write(Text.CODES_TO, codes);
                lines = i + 1;
                if (kind == END) {
                    return true;
                }
                if (!takeSign(';')) {
                    return false;
                }
            }
            return false;
        }

        /** Writes down something of the line that is being read: the one behind all that are read. */
        private void write(int what, int n) {
            if (lines < LINES) {
                draft[Text.LINE_CELLS * lines + what] = n;
            }
        }

        /** No text has more codes than bytes, so that the draft has room for all. */
        private void emit(int op) {
            if (codes < TAPE) {
                draft[DRAFT_CODES + codes] = op;
                codes++;
            }
        }

        private boolean takeVerb(boolean lease) {
            int least = lease ? Text.RENT : Text.YEARS;
            int most = lease ? Text.GAME : Text.STRIKE;
            if (kind != WORD || value < least || value > most) {
                return false;
            }
            write(Text.VERB, value);
            write(Text.NUMBER, 0);
            write(Text.FIRST, 0);
            write(Text.SECOND, 0);
            write(Text.CODES_FROM, codes);
            verb = value;
            next();
            return true;
        }

        private boolean takeRestOfLease() {
            switch (verb) {
                case Text.CORN:
                    return takeNumber(MOST) && takeWord(Text.OF) && takeCrop(Text.FIRST);
                case Text.BAR:
                    return takeCrop(Text.FIRST) && takeWord(Text.AFTER) && takeCrop(Text.SECOND);
                case Text.OWE:
                    return takeOneOf(Text.LIME, Text.DRAIN) && takeNumber(MOST);
                case Text.PUT:
                    return takeNumber(100) && isWord(Text.IF) && takeIf();
                case Text.GAME:
                    return takeNumber(100);
                default:
                    return takeNumber(MOST) && takeIf();
            }
        }

        private boolean takeRestOfAct() {
            switch (verb) {
                case Text.FELL:
                case Text.SELL:
                    return takeIf();
                case Text.PART:
                    return takeOneOf(Text.LIME, Text.LAND_THING) && takeNumber(100);
                case Text.CHARGE:
                    return takeNumber(MOST) && takeIf();
                case Text.STRIKE:
                    return takeOneOf(Text.YEARS, Text.CHARGE);
                default:
                    return takeNumber(MOST);
            }
        }

        private boolean takeNumber(int most) {
            if (kind != NUMBER || value > most) {
                return false;
            }
            write(Text.NUMBER, value);
            next();
            return true;
        }

        private boolean takeCrop(int what) {
            boolean fallow = isWord(Text.FALLOW_WORD);
            if (!fallow && (kind != WORD || value < Text.WHEAT || value > Text.GRASS)) {
                return false;
            }
            write(what, fallow ? FALLOW : value);
            next();
            return true;
        }

        private boolean takeOneOf(int least, int most) {
            if (kind != WORD || value < least || value > most) {
                return false;
            }
            write(Text.FIRST, value);
            next();
            return true;
        }

        private boolean takeWord(int word) {
            if (!isWord(word)) {
                return false;
            }
            next();
            return true;
        }

        private boolean takeSign(int sign) {
            if (!isSign(sign)) {
                return false;
            }
            next();
            return true;
        }

        private boolean isWord(int word) {
            return kind == WORD && value == word;
        }

        private boolean isSign(int sign) {
            return kind == SIGN && value == sign;
        }

        private boolean takeIf() {
            if (!isWord(Text.IF)) {
                return true;
            }
            next();
            return takeCondition(0);
        }

        private boolean takeCondition(int deep) {
            if (!takeAll(deep)) {
                return false;
            }
            for (int i = 0; i < TAPE && isWord(Text.OR_WORD); i++) {
                next();
                if (!takeAll(deep)) {
                    return false;
                }
                emit(Text.OR);
            }
            return true;
        }

        private boolean takeAll(int deep) {
            if (!takeAtom(deep)) {
                return false;
            }
            for (int i = 0; i < TAPE && isWord(Text.AND_WORD); i++) {
                next();
                if (!takeAtom(deep)) {
                    return false;
                }
                emit(Text.AND);
            }
            return true;
        }

        private boolean takeAtom(int deep) {
            boolean not = isWord(Text.NOT_WORD);
            if (not || isSign('(')) {
                if (deep >= DEEPEST) {
                    return false;
                }
                next();
                boolean right = not ? takeAtom(deep + 1) : takeCondition(deep + 1) && takeSign(')');
                if (not) {
                    emit(Text.NOT);
                }
                return right;
            }
            if (!takeSum()) {
                return false;
            }
            boolean less = isSign('<');
            boolean right = (takeSign('<') || takeSign('>')) && takeSum();
            emit(less ? Text.LESS : Text.MORE);
            return right;
        }

        private boolean takeSum() {
            for (int parts = 0; parts < TAPE; parts++) {
                boolean number = kind == NUMBER && value <= MOST;
                boolean fact = kind == WORD && value >= Text.YEAR && value <= Text.ARREARS;
                if (!number && !fact) {
                    return false;
                }
                emit(number ? value : -1 - value);
                if (parts > 0) {
                    emit(Text.ADD);
                }
                next();
                if (!isSign('+')) {
                    return true;
                }
                next();
            }
            return false;
        }

        private void next() {
            while (at < length && tape[at] == ' ') {
                at++;
            }
            start = at;
            value = 0;
            if (at >= length) {
                kind = END;
            } else if (isLetter(tape[at])) {
                kind = WORD;
                while (at < length && isLetter(tape[at])) {
                    at++;
                }
                value = wordFrom(start);
            } else if (isDigit(tape[at])) {
                kind = NUMBER;
                while (at < length && isDigit(tape[at])) {
                    // One of too many digits is beyond every bound, whatever its digits are.
                    value = at - start < 6 ? value * 10 + tape[at] - '0' : MOST + 1;
                    at++;
                }
            } else {
                kind = SIGN;
                value = tape[at];
                at++;
            }
        }

        private static boolean isLetter(int sign) {
            return sign >= 'a' && sign <= 'z';
        }

        private static boolean isDigit(int sign) {
            return sign >= '0' && sign <= '9';
        }

        /** The number in the dictionary of the word that goes from a byte to the present one; NONE. */
        private int wordFrom(int begin) {
            int word = 0;
            int i = begin;
            boolean same = true;
            for (int d = 0; d <= DICTIONARY.length(); d++) {
                char sign = d < DICTIONARY.length() ? DICTIONARY.charAt(d) : ' ';
                if (sign == ' ') {
                    if (same && i == at) {
                        return word;
                    }
                    word++;
                    i = begin;
                    same = true;
                } else if (same && i < at && tape[i] == sign) {
                    i++;
                } else {
                    same = false;
                }
            }
            return NONE;
        }
    }

    /** The estate's words, and in which order they count. A line is told as 16 times its text and its own number. */
    static final class Words {
        int size;
        private final Text[] texts = new Text[ACTS];
        private final int[] since = new int[ACTS];
        private final int[] order = new int[ACTS];

        void add(Text text, int season) {
            if (size >= ACTS) {
                return;
            }
            int place = size;
            while (place > 0 && since[textAt(place - 1)] > season) {
                order[place] = order[place - 1];
                place--;
            }
            order[place] = size;
            since[size] = season;
            texts[size] = text;
            size++;
        }

        void copyFrom(Words other) {
            size = other.size;
            for (int i = 0; i < ACTS; i++) {
                texts[i] = other.texts[i];
                since[i] = other.since[i];
                order[i] = other.order[i];
            }
        }

        /** The number of the text at a place. */
        private int textAt(int place) {
            return place >= 0 && place < size ? order[place] : 0;
        }

        /** How many texts are in force: so many of the first places. */
        private int inForce(int season) {
            int n = 0;
            for (int i = 0; i < size; i++) {
                if (since[i] <= season) {
                    n++;
                }
            }
            return n;
        }

        /** The place of the last text in force that strikes a verb: lines of it ahead of that place are taken away. */
        private int lastStrike(int inForce, int verb) {
            for (int place = inForce - 1; place > 0; place--) {
                Text text = texts[textAt(place)];
                if (text != null && text.lastOf(Text.STRIKE, verb) != NONE) {
                    return place;
                }
            }
            return 0;
        }

        int lastLine(int season, int verb, int thing) {
            for (int place = inForce(season) - 1; place >= 0; place--) {
                Text text = texts[textAt(place)];
                int line = text == null ? NONE : text.lastOf(verb, thing);
                if (line != NONE) {
                    return LINES * textAt(place) + line;
                }
                if (text != null && text.lastOf(Text.STRIKE, verb) != NONE) {
                    return NONE;
                }
            }
            return NONE;
        }

        /** The number that stands in a line; 0 of NONE. */
        int numberIn(int line) {
            if (line < 0 || line >= LINES * size) {
                return 0;
            }
            Text text = texts[line / LINES];
            return text == null ? 0 : text.get(Text.NUMBER, line % LINES);
        }

        int firstHolding(int season, int verb, long[] facts) {
            int inForce = inForce(season);
            for (int place = lastStrike(inForce, verb); place < inForce; place++) {
                Text text = texts[textAt(place)];
                int line = text == null ? NONE : text.firstHolding(verb, facts);
                if (line != NONE) {
                    return LINES * textAt(place) + line;
                }
            }
            return NONE;
        }

        int sumHolding(int season, int verb, long[] facts) {
            int inForce = inForce(season);
            int sum = 0;
            for (int place = lastStrike(inForce, verb); place < inForce; place++) {
                Text text = texts[textAt(place)];
                sum += text == null ? 0 : text.sumHolding(verb, facts);
            }
            return sum;
        }

        int linesInForce(int season) {
            int inForce = inForce(season);
            int n = 0;
            for (int verb = Text.YEARS; verb <= Text.STRIKE; verb++) {
                for (int place = lastStrike(inForce, verb); place < inForce; place++) {
                    n += linesOf(texts[textAt(place)], verb);
                }
            }
            return n;
        }

        private static int linesOf(Text text, int verb) {
            int n = 0;
            for (int line = 0; text != null && line < text.lines; line++) {
                if (text.get(Text.VERB, line) == verb) {
                    n++;
                }
            }
            return n;
        }
    }

    /** The fields. What stands of one has the number that look() asks it by. */
    static final class Land {
        static final int SOIL = 0;
        static final int WET = 1;
        static final int WORN = 2;
        static final int CROP = 3;
        static final int DRAIN = 4;
        static final int LIME = 5;
        static final int GAME = 6;
        static final int AGE = 7;
        static final int SUNK = 8;
        static final int YIELD = 9;
        static final int HOLDER = 10;
        static final int SOLD = 11;
        static final int ATE = 12;
        static final int ATE_CROP = 13;
        private static final int COLUMNS = 14;
        private static final int[] GROWS = {0, 8, 7, 6, 5, 0};
        private static final int[] WEARS = {0, 2, 1, -1, -2, -3};

        private final int[] cells = new int[COLUMNS * FIELDS];

        Land() {
            for (int field = 0; field < FIELDS; field++) {
                cells[SOIL * FIELDS + field] = 5;
                cells[HOLDER * FIELDS + field] = NONE;
            }
        }

        void copyFrom(Land other) {
            System.arraycopy(other.cells, 0, cells, 0, COLUMNS * FIELDS);
        }

        int get(int what, int field) {
            return isCell(what, field) ? cells[what * FIELDS + field] : 0;
        }

        void set(int what, int field, int n) {
            if (isCell(what, field)) {
                cells[what * FIELDS + field] = n;
            }
        }

        private static boolean isCell(int what, int field) {
            return what >= 0 && what < COLUMNS && field >= 0 && field < FIELDS;
        }

        boolean isSold(int field) {
            return get(SOLD, field) != 0;
        }

        int soldFields() {
            int n = 0;
            for (int field = 0; field < FIELDS; field++) {
                n += get(SOLD, field);
            }
            return n;
        }

        /** The field beside one on a side (0 to 3: above, below, right, left), or NONE at the edge. */
        static int beside(int field, int side) {
            int x = field % WIDE + (side == 2 ? 1 : 0) - (side == 3 ? 1 : 0);
            int next = field - field % WIDE + x + (side == 1 ? WIDE : 0) - (side == 0 ? WIDE : 0);
            return x < 0 || x >= WIDE || next < 0 || next >= FIELDS ? NONE : next;
        }

        /** Whether a field lies in the rectangle of two corners. */
        static boolean isWithin(int field, int from, int to) {
            return isBetween(field % WIDE, from % WIDE, to % WIDE) && isBetween(field / WIDE, from / WIDE, to / WIDE);
        }

        private static boolean isBetween(int n, int a, int b) {
            return n >= Math.min(a, b) && n <= Math.max(a, b);
        }

        int timberOf(int field) {
            return get(AGE, field) * get(AGE, field);
        }

        int worthOf(int field) {
            int wet = get(DRAIN, field) > 0 ? 0 : get(WET, field);
            int ground = 100 + 20 * get(SOIL, field) - 5 * get(WORN, field) - 10 * wet - 30 * get(SUNK, field);
            return Math.max(10, ground) + timberOf(field);
        }

        /** What a crop would yield on a field ahead of what game eats. */
        int growthOf(int field, int crop, int rain) {
            if (crop < 1 || crop >= FALLOW) {
                return 0;
            }
            int wet = get(DRAIN, field) > 0 ? get(WET, field) / 3 : get(WET, field);
            int lime = get(LIME, field) > 0 ? 2 : 0;
            int worn = get(WORN, field) / 2;
            return Math.max(0, GROWS[crop] + get(SOIL, field) + rain + lime - worn - wet - 2 * get(SUNK, field));
        }

        void harvest(int field, int rain) {
            int crop = get(CROP, field);
            int grown = growthOf(field, crop, rain);
            int ate = Math.min(get(GAME, field) / 4, grown);
            set(YIELD, field, grown - ate);
            set(ATE, field, ate);
            set(ATE_CROP, field, crop);
            if (crop >= 0 && crop <= CROPS) {
                set(WORN, field, Math.max(0, Math.min(20, get(WORN, field) + WEARS[crop])));
            }
        }
    }

    /** The holdings. What stands of one has the number that led() asks it by. */
    static final class Holdings {
        static final int KIND = 0;
        static final int SIZE = 1;
        static final int COIN = 2;
        static final int ARREARS = 3;
        static final int PUT = 4;
        static final int LAST = 5;
        static final int OVER = 6;
        static final int PAID = 7;
        static final int TONS = 8;
        static final int OUT = 9;
        static final int NOTICE = 10;
        static final int NUMBER = 11;
        static final int ROYALTY = 12;
        private static final int COLUMNS = 13;

        int size;
        private final int[] cells = new int[COLUMNS * HOLDINGS];
        private final Text[] leases = new Text[HOLDINGS];
        private final Text noLease = new Text();

        void copyFrom(Holdings other) {
            size = other.size;
            System.arraycopy(other.cells, 0, cells, 0, COLUMNS * HOLDINGS);
            for (int holding = 0; holding < HOLDINGS; holding++) {
                leases[holding] = other.leases[holding];
            }
        }

        void setLease(int holding, Text lease) {
            if (holding >= 0 && holding < HOLDINGS) {
                leases[holding] = lease;
            }
        }

        Text leaseOf(int holding) {
            Text lease = holding >= 0 && holding < HOLDINGS ? leases[holding] : null;
            return lease == null ? noLease : lease;
        }

        int get(int what, int holding) {
            return isCell(what, holding) ? cells[what * HOLDINGS + holding] : 0;
        }

        void set(int what, int holding, int n) {
            if (isCell(what, holding)) {
                cells[what * HOLDINGS + holding] = n;
            }
        }

        private static boolean isCell(int what, int holding) {
            return what >= 0 && what < COLUMNS && holding >= 0 && holding < HOLDINGS;
        }

        void grow(int what, int holding, long n) {
            set(what, holding, capped(get(what, holding) + n));
        }

        /** A new holding of a kind, all else of it 0; NONE if there is no room. */
        int open(int kind) {
            if (size >= HOLDINGS) {
                return NONE;
            }
            for (int what = 0; what < COLUMNS; what++) {
                set(what, size, 0);
            }
            set(KIND, size, kind);
            set(LAST, size, NONE);
            size++;
            return size - 1;
        }

        static boolean isHand(int kind) {
            return kind == HAND || kind == WOOD;
        }

        boolean isLet(int holding) {
            return get(KIND, holding) == FARM || get(KIND, holding) == YEARLY;
        }

        boolean isOver(int holding) {
            return get(OVER, holding) != 0;
        }

        int goingOn() {
            int n = 0;
            for (int holding = 0; holding < size; holding++) {
                n += isOver(holding) ? 0 : 1;
            }
            return n;
        }

        int sumOf(int what) {
            long sum = 0;
            for (int holding = 0; holding < size; holding++) {
                sum += get(what, holding);
            }
            return capped(sum);
        }

        int ofRank(int rank) {
            for (int holding = 0; holding < size; holding++) {
                if (get(ARREARS, holding) > 0 && rankOf(holding) == rank) {
                    return holding;
                }
            }
            return NONE;
        }

        private int rankOf(int holding) {
            int ahead = 0;
            int mine = get(ARREARS, holding);
            for (int other = 0; other < size; other++) {
                int its = get(ARREARS, other);
                if (its > mine || its == mine && other < holding) {
                    ahead++;
                }
            }
            return ahead;
        }
    }

    /** Rain, and what was told of prices. */
    static final class Market {
        static final int NO_NUMBER = 99;
        private static final int TELLINGS = 200;
        private static final int AT_FIRST = 10;

        private int size;
        private final int[] rains = new int[LAST_YEAR + 1];
        private final int[] crops = new int[TELLINGS];
        private final int[] years = new int[TELLINGS];
        private final int[] numbers = new int[TELLINGS];
        private final int[] seasons = new int[TELLINGS];

        void copyFrom(Market other) {
            size = other.size;
            System.arraycopy(other.rains, 0, rains, 0, LAST_YEAR + 1);
            System.arraycopy(other.crops, 0, crops, 0, TELLINGS);
            System.arraycopy(other.years, 0, years, 0, TELLINGS);
            System.arraycopy(other.numbers, 0, numbers, 0, TELLINGS);
            System.arraycopy(other.seasons, 0, seasons, 0, TELLINGS);
        }

        void setRain(int year, int n) {
            rains[year] = n;
        }

        int rainOf(int year) {
            if (year >= 0 && year <= LAST_YEAR && rains[year] == NO_NUMBER) {
                return (toldRain(year - 1) + toldRain(year + 1)) / 2;
            }
            return toldRain(year);
        }

        private int toldRain(int year) {
            return year < 0 || year > LAST_YEAR || rains[year] == NO_NUMBER ? 0 : rains[year];
        }

        int tell(int crop, int year, int n, int season) {
            if (size >= TELLINGS) {
                return NONE;
            }
            crops[size] = crop;
            years[size] = year;
            numbers[size] = n;
            seasons[size] = season;
            size++;
            return size;
        }

        int priceAt(int crop, int year, int season) {
            for (int i = size - 1; i >= 0; i--) {
                if (crops[i] == crop && years[i] == year && seasons[i] <= season) {
                    return numbers[i];
                }
            }
            return AT_FIRST;
        }

        /** The prices of a year by all that was told till now; those of crops without one stay as they are. */
        void learnPrices(int year, int[] prices) {
            for (int crop = 1; crop < FALLOW && crop < prices.length; crop++) {
                prices[crop] = AT_FIRST;
            }
            for (int i = 0; i < size; i++) {
                int crop = crops[i];
                if (years[i] == year && crop >= 0 && crop < prices.length) {
                    prices[crop] = numbers[i];
                }
            }
        }
    }

    /** Coin of the estate, its loans, and what was wrong. */
    static final class Ledger {
        static final int LOANS = 12;
        static final int WRONGS_KEPT = 60;
        private static final int NOTES = 4;

        int income;
        int capital;
        private int harvests;
        private int charges;
        private int paidOut;
        private int reigns;
        int wrongs;
        private final int[] notes = new int[WRONGS_KEPT * NOTES];
        int loans;
        private final int[] rates = new int[LOANS];
        private final int[] parts = new int[LOANS];
        final int[] left = new int[LOANS];

        void copyFrom(Ledger other) {
            income = other.income;
            capital = other.capital;
            harvests = other.harvests;
            charges = other.charges;
            paidOut = other.paidOut;
            reigns = other.reigns;
            wrongs = other.wrongs;
            System.arraycopy(other.notes, 0, notes, 0, WRONGS_KEPT * NOTES);
            loans = other.loans;
            System.arraycopy(other.rates, 0, rates, 0, LOANS);
            System.arraycopy(other.parts, 0, parts, 0, LOANS);
            System.arraycopy(other.left, 0, left, 0, LOANS);
        }

        void addIncome(long coins) {
            income = capped(income + coins);
        }

        void addCapital(long coins) {
            capital = capped(capital + coins);
        }

        void addHarvest(int coins) {
            harvests = capped((long) harvests + coins);
        }

        void payCharges(int coins) {
            addIncome(-coins);
            charges = capped((long) charges + coins);
        }

        int passOn() {
            int coins = Math.max(0, income);
            income -= coins;
            paidOut = capped((long) paidOut + coins);
            reigns++;
            return coins;
        }

        /** The first 60 are kept, all are counted. */
        void note(int kind, int coins, int season) {
            if (wrongs < WRONGS_KEPT) {
                notes[wrongs * NOTES] = kind;
                notes[wrongs * NOTES + 1] = coins;
                notes[wrongs * NOTES + 2] = season;
                notes[wrongs * NOTES + 3] = reigns;
            }
            wrongs++;
        }

        int wrongNote(int n, int what) {
            return notes[n * NOTES + what];
        }

        int lend(int n, int rate, int years) {
            if (loans >= LOANS || years < 1) {
                return NONE;
            }
            rates[loans] = rate;
            parts[loans] = (n + years - 1) / years;
            left[loans] = n;
            addCapital(n);
            loans++;
            return loans - 1;
        }

        int owedInAll() {
            int sum = 0;
            for (int i = 0; i < loans; i++) {
                sum += left[i];
            }
            return sum;
        }

        void payLoans() {
            for (int i = 0; i < loans; i++) {
                long interest = ((long) left[i] * rates[i] + 9999) / 10000;
                int part = Math.min(parts[i], left[i]);
                addIncome(-interest - part);
                left[i] -= part;
            }
        }

        /** What count() asks of the ledger. */
        int told(int what) {
            switch (what) {
                case 2:
                    return income;
                case 3:
                    return capital;
                case 10:
                    return loans;
                case 11:
                    return owedInAll();
                case 12:
                    return reigns;
                case 13:
                    return wrongs;
                case 15:
                    return harvests;
                case 16:
                    return charges;
                case 18:
                    return paidOut;
                default:
                    return NONE;
            }
        }
    }

    /** Plans: works and troubles. */
    static final class Plan {
        private static final int JOBS = 6;
        private static final int TROUBLES = 4;
        private static final int SPAN = 30;

        private int jobs;
        private int troubles;
        private final int[] costs = new int[JOBS];
        private final int[] brings = new int[JOBS];
        private final int[] years = new int[JOBS];
        private final int[] firsts = new int[TROUBLES];
        private final int[] changes = new int[TROUBLES];

        void copyFrom(Plan other) {
            jobs = other.jobs;
            troubles = other.troubles;
            System.arraycopy(other.costs, 0, costs, 0, JOBS);
            System.arraycopy(other.brings, 0, brings, 0, JOBS);
            System.arraycopy(other.years, 0, years, 0, JOBS);
            System.arraycopy(other.firsts, 0, firsts, 0, TROUBLES);
            System.arraycopy(other.changes, 0, changes, 0, TROUBLES);
        }

        int addJob(int cost, int bring, int year) {
            if (jobs >= JOBS) {
                return NONE;
            }
            costs[jobs] = cost;
            brings[jobs] = bring;
            years[jobs] = year;
            jobs++;
            return jobs;
        }

        int addTrouble(int first, int change) {
            if (troubles >= TROUBLES) {
                return NONE;
            }
            firsts[troubles] = first;
            changes[troubles] = change;
            troubles++;
            return troubles;
        }

        int leastEnd(int coin, int charge, int set) {
            int least = troubles == 0 ? endOf(coin, -charge, 0, set) : endOf(coin, firsts[0] - charge, changes[0], set);
            for (int i = 1; i < troubles; i++) {
                least = Math.min(least, endOf(coin, firsts[i] - charge, changes[i], set));
            }
            return least;
        }

        /**
         * Coin at the end, or LOST if it is ever below 0. It is enough to look at each year's end:
         * charge and costs, which go last, only make it less.
         */
        private int endOf(int coin, int first, int change, int set) {
            int left = coin;
            for (int year = 0; year < SPAN; year++) {
                left += first + change * year + jobsIn(year, set);
                if (left < 0) {
                    return LOST;
                }
            }
            return left;
        }

        private int jobsIn(int year, int set) {
            int sum = 0;
            for (int i = 0; i < jobs; i++) {
                if ((set >> i & 1) != 0) {
                    sum += year > years[i] ? brings[i] : 0;
                    sum -= year == years[i] ? costs[i] : 0;
                }
            }
            return sum;
        }

        int bestSet(int coin, int charge) {
            int best = NONE;
            int most = LOST;
            for (int set = 0; set < 1 << jobs; set++) {
                int end = leastEnd(coin, charge, set);
                boolean fewer = best != NONE && Integer.bitCount(set) < Integer.bitCount(best);
                if (end > most || end == most && fewer) {
                    best = set;
                    most = end;
                }
            }
            return best;
        }
    }

    /** Yields of the latest summers: as they are seen, and as the summers brought them. */
    static final class Rows {
        private static final int MOST = 4;

        int size;
        final int[] seen = new int[MOST * FIELDS];
        private final int[] brought = new int[MOST * FIELDS];

        void copyFrom(Rows other) {
            size = other.size;
            System.arraycopy(other.seen, 0, seen, 0, MOST * FIELDS);
            System.arraycopy(other.brought, 0, brought, 0, MOST * FIELDS);
        }

        void add(Land land) {
            if (size >= MOST) {
                System.arraycopy(seen, FIELDS, seen, 0, (MOST - 1) * FIELDS);
                System.arraycopy(brought, FIELDS, brought, 0, (MOST - 1) * FIELDS);
                size = MOST - 1;
            }
            for (int field = 0; field < FIELDS; field++) {
                seen[size * FIELDS + field] = land.get(Land.YIELD, field);
                brought[size * FIELDS + field] = land.get(Land.YIELD, field);
            }
            size++;
        }

        int firstFalse() {
            for (int i = 0; i < size * FIELDS; i++) {
                if (seen[i] != brought[i]) {
                    return i;
                }
            }
            return NONE;
        }
    }

    /** All that an image keeps, and what is reckoned from more than one part of it. */
    static final class Estate {
        final Words words = new Words();
        final Land land = new Land();
        final Holdings holdings = new Holdings();
        final Market market = new Market();
        final Ledger ledger = new Ledger();
        final Plan plan = new Plan();
        final Rows rows = new Rows();
        int season;
        private final int[] prices = new int[CROPS + 1];
        final long[] facts = new long[Text.FACTS_AND_ROOM];

        void copyFrom(Estate other) {
            words.copyFrom(other.words);
            land.copyFrom(other.land);
            holdings.copyFrom(other.holdings);
            market.copyFrom(other.market);
            ledger.copyFrom(other.ledger);
            plan.copyFrom(other.plan);
            rows.copyFrom(other.rows);
            season = other.season;
        }

        int kindAt(int field) {
            int holder = land.get(Land.HOLDER, field);
            return holder == NONE ? NONE : holdings.get(Holdings.KIND, holder);
        }

        void noteWrong(int kind, int coins) {
            ledger.note(kind, coins, season);
        }

        boolean isFree(int from, int to) {
            if (holdings.size >= HOLDINGS) {
                return false;
            }
            for (int field = 0; field < FIELDS; field++) {
                boolean taken = land.isSold(field) || land.get(Land.HOLDER, field) != NONE;
                if (taken && Land.isWithin(field, from, to)) {
                    return false;
                }
            }
            return true;
        }

        int openLease(int from, int to, int years, int coin) {
            int holding = openOn(from, to, years > 0 ? FARM : YEARLY);
            if (holding != NONE) {
                holdings.set(Holdings.COIN, holding, coin);
                holdings.set(Holdings.LAST, holding, years > 0 ? 4 * (season / 4 + years) - 1 : NONE);
            }
            return holding;
        }

        int openKept(int from, int to, int kind, int number, int other) {
            int holding = openOn(from, to, kind);
            if (holding != NONE) {
                holdings.set(Holdings.NUMBER, holding, number);
                holdings.set(Holdings.ROYALTY, holding, other);
            }
            return holding;
        }

        private int openOn(int from, int to, int kind) {
            int holding = holdings.open(kind);
            if (holding == NONE) {
                return NONE;
            }
            for (int field = 0; field < FIELDS; field++) {
                if (Land.isWithin(field, from, to)) {
                    land.set(Land.HOLDER, field, holding);
                    holdings.grow(Holdings.SIZE, holding, 1);
                }
            }
            return holding;
        }

        /** The holding is over: its fields are of none, without crops. */
        void close(int holding) {
            for (int field = 0; field < FIELDS; field++) {
                if (land.get(Land.HOLDER, field) == holding) {
                    land.set(Land.HOLDER, field, NONE);
                    land.set(Land.CROP, field, 0);
                }
            }
            holdings.set(Holdings.SIZE, holding, 0);
            holdings.set(Holdings.OVER, holding, 1);
        }

        void learnPrices() {
            market.learnPrices(season / 4, prices);
        }

        /** The price of this year as it was learnt; fallow and no crop have 0. */
        int priceOf(int crop) {
            return crop >= 0 && crop <= CROPS ? prices[crop] : 0;
        }

        private void learnFacts(int coin, int arrears) {
            market.learnPrices(season / 4, prices);
            facts[Text.YEAR] = season / 4;
            for (int crop = 1; crop < FALLOW; crop++) {
                facts[crop] = prices[crop];
            }
            for (int fact = Text.AGE; fact <= Text.SOIL; fact++) {
                facts[fact] = 0;
            }
            facts[Text.COIN] = coin;
            facts[Text.ARREARS] = arrears;
        }

        private void learnFactsOfEstate() {
            learnFacts(ledger.income, 0);
        }

        void learnFactsOfTenant(int holding) {
            learnFacts(holdings.get(Holdings.COIN, holding), holdings.get(Holdings.ARREARS, holding));
        }

        private void learnFactsOfField(int field) {
            facts[Text.AGE] = land.get(Land.AGE, field);
            facts[Text.WORN] = land.get(Land.WORN, field);
            facts[Text.WET] = land.get(Land.WET, field);
            facts[Text.SOIL] = land.get(Land.SOIL, field);
        }

        int lastLine(int verb, int thing) {
            return words.lastLine(season, verb, thing);
        }

        int yearsLet() {
            return words.numberIn(lastLine(Text.YEARS, 0));
        }

        int mostBorrowed() {
            return words.numberIn(lastLine(Text.BORROW, 0));
        }

        int partOf(int thing) {
            return words.numberIn(words.lastLine(season, Text.PART, thing));
        }

        /** The first fell or sell line in force that holds for a field; NONE. */
        int lineThatLets(int verb, int field) {
            learnFactsOfEstate();
            learnFactsOfField(field);
            return words.firstHolding(season, verb, facts);
        }

        int firstCharge() {
            learnFactsOfEstate();
            return words.firstHolding(season, Text.CHARGE, facts);
        }

        int chargesNow() {
            learnFactsOfEstate();
            return words.sumHolding(season, Text.CHARGE, facts);
        }

        /** Coins that come of a thing: its part is capital, the rest income. */
        void takeIn(int thing, int coins) {
            long part = (long) coins * words.numberIn(words.lastLine(season, Text.PART, thing)) / 100;
            ledger.addCapital(part);
            ledger.addIncome(coins - part);
        }

        boolean payWork(int thing, int coins) {
            int part = coins * partOf(thing) / 100;
            int rest = coins - part;
            if (part > 0 && ledger.capital < part || rest > 0 && ledger.income < rest) {
                return false;
            }
            ledger.addCapital(-part);
            ledger.addIncome(-rest);
            return true;
        }

        int rentOf(int holding) {
            learnFactsOfTenant(holding);
            Text lease = holdings.leaseOf(holding);
            long sum = lease.sumHolding(Text.RENT, facts);
            for (int line = 0; line < lease.lines; line++) {
                if (lease.get(Text.VERB, line) == Text.CORN) {
                    sum += (long) lease.get(Text.NUMBER, line) * priceOf(lease.get(Text.FIRST, line));
                }
            }
            return capped(sum);
        }

        int owedTo(int holding) {
            learnFactsOfTenant(holding);
            Text lease = holdings.leaseOf(holding);
            long sum = 0;
            for (int field = 0; field < FIELDS; field++) {
                if (land.get(Land.HOLDER, field) == holding) {
                    learnFactsOfField(field);
                    sum += leftOn(field, lease) - lease.sumHolding(Text.WASTE, facts);
                }
            }
            return Math.max(0, capped(sum));
        }

        /** What a lease owes for the years that are left of things on a field. */
        private long leftOn(int field, Text lease) {
            long sum = 0;
            for (int line = 0; line < lease.lines; line++) {
                if (lease.get(Text.VERB, line) == Text.OWE) {
                    int thing = lease.get(Text.FIRST, line) == Text.LIME ? Land.LIME : Land.DRAIN;
                    sum += (long) lease.get(Text.NUMBER, line) * land.get(thing, field);
                }
            }
            return sum;
        }

        int bestSale(int from, int n, int coin) {
            int eligible = 0;
            for (int i = 0; i < n; i++) {
                boolean may = !land.isSold(from + i) && lineThatLets(Text.SELL, from + i) != NONE;
                eligible |= may ? 1 << i : 0;
            }
            int best = NONE;
            int fewest = 0;
            int least = 0;
            for (int set = 0; set < 1 << n; set++) {
                int worth = worthTogether(from, set);
                if ((set & ~eligible) == 0 && worth >= coin) {
                    int parted = partedPairs(from, set);
                    if (best == NONE || parted < fewest || parted == fewest && worth < least) {
                        best = set;
                        fewest = parted;
                        least = worth;
                    }
                }
            }
            return best;
        }

        private static boolean isIn(int field, int from, int set) {
            int bit = field - from;
            return bit >= 0 && bit < 8 && (set >> bit & 1) != 0;
        }

        private int worthTogether(int from, int set) {
            int sum = 0;
            for (int field = from; field < from + 8 && field < FIELDS; field++) {
                sum += isIn(field, from, set) ? land.worthOf(field) : 0;
            }
            return sum;
        }

        private int partedPairs(int from, int set) {
            int pairs = 0;
            for (int field = from; field < from + 8 && field < FIELDS; field++) {
                for (int side = 0; side < SIDES && isIn(field, from, set); side++) {
                    int next = Land.beside(field, side);
                    if (next != NONE && !land.isSold(next) && !isIn(next, from, set)) {
                        pairs++;
                    }
                }
            }
            return pairs;
        }
    }

    /** What ends each season. */
    static final class Year {
        private final Estate estate;
        private final Land land;
        private final Holdings holdings;
        private final Ledger ledger;

        Year(Estate estate) {
            this.estate = estate;
            land = estate.land;
            holdings = estate.holdings;
            ledger = estate.ledger;
        }

        void pass() {
            estate.learnPrices();
            switch (estate.season % 4) {
                case 0:
                    spring();
                    break;
                case 1:
                    summer();
                    break;
                case 2:
                    autumn();
                    break;
                default:
                    breedGame();
                    growOlder();
                    digMines();
                    ledger.payLoans();
                    ledger.payCharges(estate.chargesNow());
                    endLeases();
                    break;
            }
            estate.season++;
        }

        private void spring() {
            for (int field = 0; field < FIELDS; field++) {
                int kind = estate.kindAt(field);
                if (kind == FARM || kind == YEARLY) {
                    land.set(Land.CROP, field, chosenCrop(holdings.leaseOf(land.get(Land.HOLDER, field)), field));
                } else if (!Holdings.isHand(kind)) {
                    land.set(Land.CROP, field, 0);
                }
            }
        }

        private int chosenCrop(Text lease, int field) {
            int chosen = FALLOW;
            int most = NONE;
            for (int crop = 1; crop <= CROPS; crop++) {
                int hope = estate.priceOf(crop) * land.growthOf(field, crop, 0);
                if (hope > most && !isBarred(lease, crop, land.get(Land.CROP, field))) {
                    chosen = crop;
                    most = hope;
                }
            }
            return chosen;
        }

        private static boolean isBarred(Text lease, int crop, int after) {
            for (int line = 0; line < lease.lines; line++) {
                boolean bar = lease.get(Text.VERB, line) == Text.BAR;
                if (bar && lease.get(Text.FIRST, line) == crop && lease.get(Text.SECOND, line) == after) {
                    return true;
                }
            }
            return false;
        }

        private void summer() {
            int rain = estate.market.rainOf(estate.season / 4);
            for (int field = 0; field < FIELDS; field++) {
                land.harvest(field, rain);
                sellHarvest(field);
            }
            estate.rows.add(land);
        }

        private void sellHarvest(int field) {
            int holding = land.get(Land.HOLDER, field);
            if (holding == NONE) {
                return;
            }
            int coins = land.get(Land.YIELD, field) * estate.priceOf(land.get(Land.CROP, field));
            ledger.addHarvest(coins);
            if (holdings.isLet(holding)) {
                holdings.grow(Holdings.COIN, holding, coins);
            } else {
                ledger.addIncome(coins);
                holdings.grow(Holdings.PAID, holding, coins);
            }
        }

        private void autumn() {
            for (int holding = 0; holding < holdings.size; holding++) {
                if (!holdings.isOver(holding) && holdings.isLet(holding)) {
                    takeRent(holding);
                } else if (!holdings.isOver(holding) && holdings.get(Holdings.KIND, holding) == COTTAGE) {
                    receive(holding, holdings.get(Holdings.NUMBER, holding));
                }
            }
        }

        private void receive(int holding, int coins) {
            holdings.grow(Holdings.PAID, holding, coins);
            ledger.addIncome(coins);
        }

        /** What is owed here is no sum that is kept, so it is not bounded: the ARREARS are, behind what is paid. */
        private void takeRent(int holding) {
            long rent = Math.max(0, estate.rentOf(holding) - harmOfGame(holding));
            int hundredths = hundredthsPut(holding);
            long due;
            if (hundredths == NONE) {
                due = rent + holdings.get(Holdings.PUT, holding);
                holdings.set(Holdings.PUT, holding, 0);
            } else {
                long off = rent * hundredths / 100;
                due = rent - off;
                holdings.grow(Holdings.PUT, holding, off);
            }
            long owed = holdings.get(Holdings.ARREARS, holding) + due;
            int paid = (int) Math.min(owed, Math.max(0, holdings.get(Holdings.COIN, holding)));
            holdings.grow(Holdings.COIN, holding, -paid);
            holdings.set(Holdings.ARREARS, holding, capped(owed - paid));
            receive(holding, paid);
        }

        private int harmOfGame(int holding) {
            Text lease = holdings.leaseOf(holding);
            int hundredths = lease.get(Text.NUMBER, lease.lastOf(Text.GAME, 0));
            int eaten = 0;
            for (int field = 0; field < FIELDS; field++) {
                if (land.get(Land.HOLDER, field) == holding) {
                    eaten += land.get(Land.ATE, field) * estate.priceOf(land.get(Land.ATE_CROP, field));
                }
            }
            return eaten * hundredths / 100;
        }

        /** The greatest number of the put lines that hold; NONE if none does. */
        private int hundredthsPut(int holding) {
            estate.learnFactsOfTenant(holding);
            Text lease = holdings.leaseOf(holding);
            int most = NONE;
            for (int line = 0; line < lease.lines; line++) {
                if (lease.get(Text.VERB, line) == Text.PUT && lease.holds(line, estate.facts)) {
                    most = Math.max(most, lease.get(Text.NUMBER, line));
                }
            }
            return most;
        }

        private void breedGame() {
            for (int field = 0; field < FIELDS; field++) {
                int game = land.get(Land.GAME, field);
                if (estate.kindAt(field) == WOOD) {
                    land.set(Land.GAME, field, Math.min(99, game + (game + 1) / 2));
                } else if (isBesideWood(field) && !land.isSold(field)) {
                    land.set(Land.GAME, field, Math.min(99, game + 1));
                }
            }
        }

        private boolean isBesideWood(int field) {
            for (int side = 0; side < SIDES; side++) {
                int next = Land.beside(field, side);
                if (next != NONE && estate.kindAt(next) == WOOD) {
                    return true;
                }
            }
            return false;
        }

        private void growOlder() {
            for (int field = 0; field < FIELDS; field++) {
                if (!land.isSold(field)) {
                    int older = estate.kindAt(field) == WOOD ? 1 : 0;
                    land.set(Land.AGE, field, land.get(Land.AGE, field) + older);
                    land.set(Land.DRAIN, field, Math.max(0, land.get(Land.DRAIN, field) - 1));
                    land.set(Land.LIME, field, Math.max(0, land.get(Land.LIME, field) - 1));
                }
            }
        }

        private void digMines() {
            for (int holding = 0; holding < holdings.size; holding++) {
                if (holdings.get(Holdings.KIND, holding) == MINE && !holdings.isOver(holding)) {
                    dig(holding);
                }
            }
        }

        private void dig(int holding) {
            int tons = holdings.get(Holdings.NUMBER, holding);
            int coins = tons * holdings.get(Holdings.ROYALTY, holding);
            int before = holdings.get(Holdings.TONS, holding) / 100;
            holdings.grow(Holdings.TONS, holding, tons);
            holdings.grow(Holdings.PAID, holding, coins);
            estate.takeIn(Text.MINE_THING, coins);
            int fields = holdings.get(Holdings.SIZE, holding);
            for (int turn = before; turn < holdings.get(Holdings.TONS, holding) / 100 && fields > 0; turn++) {
                sink(holding, turn % fields);
            }
        }

        private void sink(int holding, int turn) {
            int seen = 0;
            for (int field = 0; field < FIELDS; field++) {
                if (land.get(Land.HOLDER, field) == holding) {
                    if (seen == turn) {
                        land.set(Land.SUNK, field, Math.min(9, land.get(Land.SUNK, field) + 1));
                    }
                    seen++;
                }
            }
        }

        private void endLeases() {
            for (int holding = 0; holding < holdings.size; holding++) {
                if (isAtItsEnd(holding)) {
                    goOut(holding);
                }
            }
        }

        private boolean isAtItsEnd(int holding) {
            if (holdings.isOver(holding)) {
                return false;
            }
            int kind = holdings.get(Holdings.KIND, holding);
            return kind == FARM && holdings.get(Holdings.LAST, holding) <= estate.season
                    || kind == YEARLY && holdings.get(Holdings.NOTICE, holding) != 0;
        }

        private void goOut(int holding) {
            long held = (long) holdings.get(Holdings.ARREARS, holding) + holdings.get(Holdings.PUT, holding);
            int paid = (int) Math.max(0, estate.owedTo(holding) - held);
            ledger.addIncome(-paid);
            holdings.set(Holdings.OUT, holding, paid);
            holdings.set(Holdings.ARREARS, holding, 0);
            holdings.set(Holdings.PUT, holding, 0);
            estate.close(holding);
        }
    }
}
