/**
 * The sentences behind part 6 and those of promises 39 to 41: what a call that throws or is refused leaves as it is, which
 * exception goes first, THE IMAGE, and count.
 */
public final class EdgesOfCallsTest {
    private static final String INDEX = "IndexOutOfBoundsException";
    private static final String NUMBER = "IllegalArgumentException";
    private static final String KIND = "ClassCastException";
    private static final String NO_SUCH = "NoSuchElementException";
    private static final String ROOM = "UnsupportedOperationException";

    public static void main(String[] args) {
        throwsOfLand();
        throwsOfHoldings();
        throwsOfWords();
        throwsOfActs();
        throwsOfPlans();
        throwsThatUseTheTape();
        refusals();
        refusalsOfFullOnes();
        noSuchIndex();
        kindsOfHoldings();
        theOneToldFirst();
        oneImage();
        imageOfAll();
        whatAnImageLeaves();
        back();
        countOfEach();
        countOfAnother();
        Calls.finish();
    }

    /** An estate with something of everything, in the autumn of year 1, and "sell;years 7" on the TAPE. */
    private static void full(GreatEstate x) {
        Calls.words(x, 0, "years 4;sell if soil<9;borrow 900;part wood 50;charge 3");
        Calls.words(x, 9, "strike sell;fell");
        x.price(1, 0, 20);
        x.price(2, 3, 30);
        x.rain(0, 2, true);
        x.rain(3, 0, false);
        x.field(0, 6, 1, 2, 30, 0);
        x.field(4, 6, 1, 2, 30, 40);
        x.field(45, 9, 0, 0, 0, 0);
        Calls.farm(x, 0, 9, 3, 50, "rent 400;put 10 if year<1;owe drain 2;game 50");
        Calls.farm(x, 16, 17, 5, 50, "rent 9000;bar wheat after wheat;waste 3");
        Calls.yearly(x, 24, 24, 9, "corn 7 of wheat");
        x.keep(4, 5, 3, 0, 0);
        x.keep(6, 6, 4, 130, 2);
        x.keep(7, 7, 5, 40, 0);
        x.keep(32, 33, 2, 0, 0);
        x.sow(4, 2);
        x.sow(32, 1);
        x.loan(200, 100, 5, false);
        x.sell(47, false);
        x.job(10, 1, 0);
        x.job(20, 2, 3);
        x.trouble(5, 0);
        x.seasons(6);
        x.work(0, false);
        x.cut(4, true);
        x.notice(2);
        x.tear(1, 46, 1);
        x.heir();
        Calls.tape(x, "sell;years 7");
    }

    /** All that has a bound in how many there may be is full, but for tellings. */
    private static void crowded(GreatEstate x) {
        for (int i = 0; i < 24; i++) {
            x.keep(i, i, 2 + i % 4, 5, 5);
        }
        for (int i = 0; i < 12; i++) {
            Calls.words(x, 0, "charge " + i);
            x.loan(100 + i, 0, 40, true);
        }
        for (int i = 0; i < 6; i++) {
            x.job(5, i, i);
        }
        for (int i = 0; i < 4; i++) {
            x.trouble(i, 1);
        }
        x.seasons(4);
    }

    private static final String FULL = Whole.andThen(EdgesOfCallsTest::full);
    private static final String FULL_TAPE = Whole.tape(EdgesOfCallsTest::full);

    private static void leaves(String name, String want, Whole.Ask call) {
        String[] got = new String[1];
        Whole.Run run = x -> {
            full(x);
            got[0] = Calls.outcome(() -> call.of(x));
        };
        Calls.due(name + " changes nothing", Whole.andThen(run).equals(FULL), true);
        Calls.dueSame(name, got[0], want);
        Calls.dueSame("the tape behind " + name, Whole.tape(run), FULL_TAPE);
        GreatEstate x = new GreatEstate();
        run.on(x);
        Calls.due("fault behind " + name, x.fault(), -1);
    }

    private static void toldThrow() {
        Calls.sentence("a call that throws changes nothing but the TAPE, where it is used up.");
    }

    private static void throwsOfLand() {
        toldThrow();
        leaves("field(48)", INDEX, x -> Calls.bit(x.field(48, 1, 1, 1, 1, 1)));
        leaves("field soil 10", NUMBER, x -> Calls.bit(x.field(1, 10, 1, 1, 1, 1)));
        leaves("field wet 10", NUMBER, x -> Calls.bit(x.field(1, 1, 10, 1, 1, 1)));
        leaves("field worn 21", NUMBER, x -> Calls.bit(x.field(1, 1, 1, 21, 1, 1)));
        leaves("field game 100", NUMBER, x -> Calls.bit(x.field(1, 1, 1, 1, 100, 1)));
        leaves("field age 301", NUMBER, x -> Calls.bit(x.field(1, 1, 1, 1, 1, 301)));
        leaves("rain of year 101", NUMBER, x -> rain(x, 101, 1, true));
        leaves("rain 6", NUMBER, x -> rain(x, 1, 6, true));
        leaves("fell(101)", NUMBER, x -> x.fell(101));
        leaves("price of crop 5", NUMBER, x -> x.price(5, 1, 1));
        leaves("price of year 101", NUMBER, x -> x.price(1, 101, 1));
        leaves("price 101", NUMBER, x -> x.price(1, 1, 101));
        leaves("known of crop 5", NUMBER, x -> x.known(5, 1, 1));
        leaves("seasons(41)", NUMBER, x -> x.seasons(41));
        leaves("seasons(-1)", NUMBER, x -> x.seasons(-1));
        leaves("look(48)", INDEX, x -> x.look(48, 0));
        leaves("look what 13", NO_SUCH, x -> x.look(0, 13));
    }

    private static int rain(GreatEstate x, int year, int n, boolean is) {
        x.rain(year, n, is);
        return 0;
    }

    private static void throwsOfHoldings() {
        toldThrow();
        leaves("keep of no field", INDEX, x -> x.keep(40, 48, 2, 0, 0));
        leaves("keep of kind 1", NUMBER, x -> x.keep(40, 41, 1, 0, 0));
        leaves("keep of 2001 tons", NUMBER, x -> x.keep(40, 41, 4, 2001, 0));
        leaves("keep of royalty 101", NUMBER, x -> x.keep(40, 41, 4, 1, 101));
        leaves("keep of rent 1001", NUMBER, x -> x.keep(40, 41, 5, 1001, 0));
        leaves("sow of no field", INDEX, x -> Calls.bit(x.sow(48, 1)));
        leaves("sow of crop 6", NUMBER, x -> Calls.bit(x.sow(32, 6)));
        leaves("sow of a farm's", KIND, x -> Calls.bit(x.sow(0, 4)));
        leaves("sow of none's", KIND, x -> Calls.bit(x.sow(40, 4)));
        leaves("notice to none", INDEX, x -> Calls.bit(x.notice(7)));
        leaves("notice to a farm", KIND, x -> Calls.bit(x.notice(0)));
        leaves("give of none", INDEX, x -> x.give(7));
        leaves("give of a farm", KIND, x -> x.give(0));
        leaves("led of none", INDEX, x -> x.led(7, 0));
        leaves("led what 11", NO_SUCH, x -> x.led(0, 11));
        leaves("owed of none", INDEX, x -> x.owed(-1));
        leaves("owed of a hand", KIND, x -> x.owed(6));
        leaves("rent of none", INDEX, x -> x.rent(-1));
        leaves("rent of a mine", KIND, x -> x.rent(4));
    }

    private static void throwsOfWords() {
        toldThrow();
        leaves("may of no field", INDEX, x -> x.may(0, 48));
        leaves("may what 10", NO_SUCH, x -> x.may(10, 0));
        leaves("why of no field", INDEX, x -> x.why(0, 48));
        leaves("why what 5", NO_SUCH, x -> x.why(5, 0));
    }

    private static void throwsOfActs() {
        toldThrow();
        leaves("cut of no field", INDEX, x -> x.cut(48, true));
        leaves("cut of a hand's", KIND, x -> x.cut(32, true));
        leaves("cut of none's", KIND, x -> x.cut(40, true));
        leaves("loan of 0", NUMBER, x -> x.loan(0, 0, 1, true));
        leaves("loan at 2001", NUMBER, x -> x.loan(1, 2001, 1, true));
        leaves("loan in 41 years", NUMBER, x -> x.loan(1, 0, 41, true));
        leaves("owing of none", INDEX, x -> x.owing(1));
        leaves("work on no field", INDEX, x -> Calls.bit(x.work(48, true)));
        leaves("sell of no field", INDEX, x -> x.sell(48, true));
        leaves("wrong of none", NO_SUCH, x -> x.wrong(9, 0));
        leaves("wrong what 4", NO_SUCH, x -> x.wrong(0, 4));
    }

    private static void throwsOfPlans() {
        toldThrow();
        leaves("job of cost 100001", NUMBER, x -> x.job(100001, 1, 1));
        leaves("job that brings 10001", NUMBER, x -> x.job(1, 10001, 1));
        leaves("job in year 30", NUMBER, x -> x.job(1, 1, 30));
        leaves("trouble of 100001", NUMBER, x -> x.trouble(100001, 1));
        leaves("trouble by 1001", NUMBER, x -> x.trouble(1, 1001));
        leaves("worth from -1", NUMBER, x -> x.worth(-1, 1, 1));
        leaves("worth by charge 100001", NUMBER, x -> x.worth(1, 100001, 1));
        leaves("best from 1000001", NUMBER, x -> x.best(1000001, 1));
        leaves("best by charge -1", NUMBER, x -> x.best(1, -1));
        leaves("toSell from 48", INDEX, x -> x.toSell(48, 1, 1));
        leaves("toSell of 9", NUMBER, x -> x.toSell(0, 9, 1));
        leaves("toSell beyond the last", NUMBER, x -> x.toSell(47, 2, 1));
        leaves("toSell of 100001", NUMBER, x -> x.toSell(0, 1, 100001));
        leaves("row 2", NO_SUCH, x -> x.row(2, 0));
        leaves("row of no field", INDEX, x -> x.row(0, 48));
        leaves("tear 2", NO_SUCH, x -> x.tear(2, 0, 1));
        leaves("tear of no field", INDEX, x -> x.tear(0, 48, 1));
    }

    /** The TAPE is empty then; fault() is as told; all else is as it was. */
    private static void leavesButTheTape(String text, String name, String want, int fault, Whole.Ask call) {
        String[] got = new String[1];
        Whole.Run run = x -> {
            full(x);
            Calls.tape(x, text);
            got[0] = Calls.outcome(() -> call.of(x));
        };
        Calls.due(name + " changes nothing", Whole.andThen(run).equals(FULL), true);
        Calls.dueSame(name, got[0], want);
        GreatEstate x = new GreatEstate();
        run.on(x);
        Calls.due("fault behind " + name, x.fault(), fault);
        Calls.due("the tape behind " + name, x.feed(0, 0, 0, 0, 0), 20);
    }

    private static void throwsThatUseTheTape() {
        toldThrow();
        leavesButTheTape("rent 5", "let of no field", INDEX, -1, x -> x.let(40, 48, 0, 0, true));
        leavesButTheTape("rent x", "let of no field, and a wrong text", INDEX, -1, x -> x.let(-1, 40, 0, 0, true));
        leavesButTheTape("rent 5", "let for 100 years", NUMBER, -1, x -> x.let(40, 41, 100, 0, true));
        leavesButTheTape("rent x", "let for 100 years, and a wrong text", NUMBER, -1, x -> x.let(40, 41, 100, 0, true));
        leavesButTheTape("rent 5", "let to a coin of 100001", NUMBER, -1, x -> x.let(40, 41, 0, 100001, true));
        leavesButTheTape("rent x", "let by a wrong text", NUMBER, 5, x -> x.let(40, 41, 0, 0, true));
        leavesButTheTape("sell", "let by words of the estate", NUMBER, 0, x -> x.let(40, 41, 0, 0, true));
        leavesButTheTape("sell", "words ahead of now", NUMBER, -1, x -> x.words(5));
        leavesButTheTape("sell", "words behind 400", NUMBER, -1, x -> x.words(401));
        leavesButTheTape("sell x", "words ahead of now, and a wrong text", NUMBER, -1, x -> x.words(5));
        leavesButTheTape("sell x", "words of a wrong text", NUMBER, 5, x -> x.words(6));
        leavesButTheTape("rent 5", "words of a lease", NUMBER, 0, x -> x.words(6));
        leavesButTheTape("rent 5", "let of a held field", "-1", -1, x -> x.let(0, 0, 0, 0, true));
        leavesButTheTape("rent 5", "let of a sold field", "-1", -1, x -> x.let(46, 47, 0, 0, true));
        leavesButTheTape("rent 5", "let for 5 years", "-1", -1, x -> x.let(40, 41, 5, 0, false));
    }

    private static void refusals() {
        Calls.sentence("NONE, and nothing happens, if the WORDS do not let");
        leaves("cut", "-1", x -> x.cut(5, false));
        leaves("loan", "-1", x -> x.loan(900, 0, 1, false));
        leaves("sell of good soil", "-1", x -> x.sell(45, false));
        Calls.sentence("false, and nothing happens, if it is SOLD.");
        leaves("field of a sold one", "0", x -> Calls.bit(x.field(47, 1, 1, 1, 1, 1)));
        Calls.sentence("false, and nothing happens, if the FIELD is SOLD, or CAPITAL or INCOME is not enough for its part");
        leaves("work on a sold one", "0", x -> Calls.bit(x.work(47, true)));
        leaves("work without income", "0", x -> Calls.bit(x.work(1, true)));
        Calls.sentence("NONE, and nothing happens, if it is SOLD, of a HOLDING, or the WORDS do not let");
        leaves("sell of a sold one", "-1", x -> x.sell(47, true));
        leaves("sell of a held one", "-1", x -> x.sell(0, true));
        Calls.sentence("NONE likewise (it needs no WORDS).");
        leaves("keep of a held one", "-1", x -> x.keep(0, 0, 2, 0, 0));
        leaves("keep of a sold one", "-1", x -> x.keep(46, 47, 2, 0, 0));
        Calls.sentence("NOTICE to a YEARLY: true; false, if it has it.");
        leaves("notice again", "0", x -> Calls.bit(x.notice(2)));
        Calls.sentence("false, and nothing happens, if it has fewer, or n is below 0.");
        leaves("end beyond", "0", x -> Calls.bit(x.end(13)));
        leaves("end -1", "0", x -> Calls.bit(x.end(-1)));
        Calls.sentence("false, and nothing happens, if none was kept.");
        leaves("back", "0", x -> Calls.bit(x.back()));
        Calls.sentence("NONE for another what.");
        leaves("count 19", "-1", x -> x.count(19));
        Calls.sentence("NONE if there is none such.");
        leaves("arrears of rank 9", "-1", x -> x.arrears(9));
    }

    private static void leavesCrowded(String name, String want, Whole.Ask call) {
        String[] got = new String[1];
        String due = Whole.andThen(EdgesOfCallsTest::crowded);
        Calls.due(name + " changes nothing", Whole.andThen(x -> {
            crowded(x);
            got[0] = Calls.outcome(() -> call.of(x));
        }).equals(due), true);
        Calls.dueSame(name, got[0], want);
    }

    private static void refusalsOfFullOnes() {
        Calls.sentence("NONE, and it does not come, if a FIELD of it is SOLD or of a HOLDING, or there are 24");
        leavesCrowded("let of a 25th", "-1", x -> x.let(40, 40, 0, 0, true));
        leavesCrowded("let of a 25th for a year", "-1", x -> x.let(40, 40, 1, 0, true));
        leavesCrowded("keep of a 25th", "-1", x -> x.keep(40, 40, 2, 0, 0));
        Calls.sentence("UnsupportedOperationException: there are 12.");
        leavesCrowded("words of a 13th", ROOM, x -> x.words(4));
        leavesCrowded("loan of a 13th", ROOM, x -> x.loan(1, 0, 1, true));
        leavesCrowded("loan of a 13th, not forced", ROOM, x -> x.loan(1, 0, 1, false));
        Calls.sentence("NONE, and it does not come, if there are 6.");
        leavesCrowded("job of a 7th", "-1", x -> x.job(1, 1, 1));
        Calls.sentence("NONE, and it does not come, if there are 4.");
        leavesCrowded("trouble of a 5th", "-1", x -> x.trouble(1, 1));
        Calls.sentence("NONE, and it is not told, if there are 200.");
        Whole.Run told = x -> {
            for (int i = 0; i < 200; i++) {
                x.price(1 + i % 4, i % 5, i % 101);
            }
        };
        Calls.due("a 201st changes nothing", Whole.andThen(x -> {
            told.on(x);
            x.price(1, 1, 99);
        }).equals(Whole.andThen(told)), true);
    }

    private static void noSuchIndex() {
        Calls.sentence("IndexOutOfBoundsException: there is no such FIELD, HOLDING, LOAN.");
        for (int i : new int[] {-1, 48, Integer.MIN_VALUE, Integer.MAX_VALUE}) {
            GreatEstate x = new GreatEstate();
            x.seasons(2);
            Calls.dueIndex("field " + i, () -> Calls.bit(x.field(i, 5, 0, 0, 0, 0)));
            Calls.dueIndex("let from " + i, () -> x.let(i, 0, 0, 0, false));
            Calls.dueIndex("let to " + i, () -> x.let(0, i, 0, 0, false));
            Calls.dueIndex("keep from " + i, () -> x.keep(i, 0, 2, 0, 0));
            Calls.dueIndex("keep to " + i, () -> x.keep(0, i, 2, 0, 0));
            Calls.dueIndex("sow " + i, () -> Calls.bit(x.sow(i, 0)));
            Calls.dueIndex("look " + i, () -> x.look(i, 0));
            Calls.dueIndex("may " + i, () -> x.may(0, i));
            Calls.dueIndex("why " + i, () -> x.why(0, i));
            Calls.dueIndex("cut " + i, () -> x.cut(i, true));
            Calls.dueIndex("work " + i, () -> Calls.bit(x.work(i, true)));
            Calls.dueIndex("sell " + i, () -> x.sell(i, true));
            Calls.dueIndex("toSell " + i, () -> x.toSell(i, 1, 0));
            Calls.dueIndex("row " + i, () -> x.row(0, i));
            Calls.dueIndex("tear " + i, () -> x.tear(0, i, 0));
        }
        for (int i : new int[] {-1, 2, 12, 24, Integer.MIN_VALUE, Integer.MAX_VALUE}) {
            GreatEstate x = new GreatEstate();
            Calls.yearly(x, 0, 0, 0, "");
            Calls.yearly(x, 1, 1, 0, "");
            x.loan(1, 0, 1, true);
            x.loan(1, 0, 1, true);
            Calls.dueIndex("notice " + i, () -> Calls.bit(x.notice(i)));
            Calls.dueIndex("give " + i, () -> x.give(i));
            Calls.dueIndex("led " + i, () -> x.led(i, 0));
            Calls.dueIndex("owed " + i, () -> x.owed(i));
            Calls.dueIndex("rent " + i, () -> x.rent(i));
            Calls.dueIndex("owing " + i, () -> x.owing(i));
        }
    }

    private static void kindsOfHoldings() {
        Calls.sentence("ClassCastException: the HOLDING is of another kind.");
        GreatEstate x = new GreatEstate();
        Calls.farm(x, 0, 0, 9, 0, "");
        Calls.yearly(x, 1, 1, 0, "");
        for (int kind = 2; kind <= 5; kind++) {
            x.keep(kind, kind, kind, 0, 0);
        }
        String[] sow = {KIND, KIND, "1", "1", KIND, KIND};
        String[] cut = {KIND, KIND, KIND, "0", KIND, KIND};
        String[] notice = {KIND, "1", KIND, KIND, KIND, KIND};
        String[] let = {"0", "0", KIND, KIND, KIND, KIND};
        String[] give = {KIND, KIND, "1", "1", "1", "1"};
        for (int kind = 0; kind < 6; kind++) {
            int k = kind;
            Calls.dueSame("sow " + k, Calls.outcome(() -> Calls.bit(x.sow(k, 1))), sow[k]);
            Calls.dueSame("cut " + k, Calls.outcome(() -> x.cut(k, true)), cut[k]);
            Calls.dueSame("notice " + k, Calls.outcome(() -> Calls.bit(x.notice(k))), notice[k]);
            Calls.dueSame("owed " + k, Calls.outcome(() -> x.owed(k)), let[k]);
            Calls.dueSame("rent " + k, Calls.outcome(() -> x.rent(k)), let[k]);
            Calls.dueSame("give " + k, Calls.outcome(() -> x.give(k)), give[k]);
        }
    }

    private static void theOneToldFirst() {
        Calls.sentence("Of several exceptions the one told first is thrown;");
        GreatEstate x = new GreatEstate();
        Calls.dueIndex("field", () -> Calls.bit(x.field(48, 10, 10, 21, 100, 301)));
        Calls.dueIndex("let", () -> x.let(48, 48, 100, -1, false));
        Calls.tape(x, "bogus");
        Calls.dueIndex("let with a wrong text", () -> x.let(0, -1, 100, -1, false));
        Calls.dueIndex("keep", () -> x.keep(0, 48, 9, -1, -1));
        Calls.dueIndex("sow, no field, no crop, no holding", () -> Calls.bit(x.sow(48, 6)));
        Calls.dueNumber("sow, no crop, no holding", () -> Calls.bit(x.sow(0, 6)));
        Calls.dueKind("sow, no holding", () -> Calls.bit(x.sow(0, 5)));
        Calls.dueIndex("look", () -> x.look(48, 13));
        Calls.dueIndex("led", () -> x.led(0, 11));
        Calls.dueIndex("may", () -> x.may(10, 48));
        Calls.dueIndex("why", () -> x.why(5, 48));
        Calls.dueIndex("toSell, no field", () -> x.toSell(48, 9, -1));
        Calls.dueNumber("toSell, n, and the coin", () -> x.toSell(0, 9, -1));
        Calls.dueIndex("row", () -> x.row(9, 48));
        Calls.dueIndex("tear", () -> x.tear(9, 48, 1));
        for (int i = 0; i < 12; i++) {
            x.words(0);
            x.loan(1, 0, 1, true);
        }
        Calls.dueNumber("loan, a number ahead of 12", () -> x.loan(1, 0, 0, true));
        Calls.dueNumber("words, the season ahead of 12", () -> x.words(-1));
        Calls.tape(x, "bogus");
        Calls.dueNumber("words, the text ahead of 12", () -> x.words(0));
        Calls.dueRoom("words", () -> x.words(0));
        Calls.dueRoom("loan", () -> x.loan(1, 0, 1, true));
    }

    private static void change(GreatEstate x) {
        x.rain(0, -2, true);
        x.rain(100, 4, true);
        x.price(1, 2, 77);
        Calls.words(x, 6, "strike years;strike sell;part land 9;charge 50");
        Calls.farm(x, 40, 41, 9, 0, "rent 7");
        x.give(3);
        x.loan(500, 0, 2, true);
        x.sell(46, true);
        x.job(1, 9, 0);
        x.trouble(-9, 0);
        x.field(3, 0, 0, 0, 0, 9);
        x.tear(0, 5, 7);
        x.sow(32, 3);
        x.seasons(30);
        x.heir();
    }

    private static void oneImage() {
        Calls.sentence("THE IMAGE (one) of all may be kept, and gone back to");
        GreatEstate x = new GreatEstate();
        x.image();
        x.seasons(1);
        x.image();
        x.seasons(1);
        Calls.due("back", x.back(), true);
        Calls.due("to the latest", x.count(0), 1);
        x.seasons(5);
        Calls.due("back again", x.back(), true);
        Calls.due("to the same", x.count(0), 1);
        Calls.due("back without a change", x.back(), true);
        Calls.due("the same", x.count(0), 1);
        x.image();
        x.seasons(3);
        x.image();
        x.back();
        Calls.due("the one kept last", x.count(0), 4);
    }

    private static void imageOfAll() {
        Calls.sentence("THE IMAGE is kept.");
        Whole.Run keeps = x -> {
            full(x);
            x.image();
        };
        Calls.due("nothing changes by it", Whole.andThen(keeps).equals(FULL), true);
        Calls.dueSame("nor the tape", Whole.tape(keeps), FULL_TAPE);
        Whole.Run changes = x -> {
            keeps.on(x);
            change(x);
        };
        Calls.due("all is another", Whole.of(changes).equals(Whole.of(EdgesOfCallsTest::full)), false);
        Calls.sentence("One goes back to THE IMAGE: true;");
        Calls.due("all is as it was", Whole.andThen(x -> {
            changes.on(x);
            x.back();
        }).equals(FULL), true);
        Calls.due("also a second time", Whole.andThen(x -> {
            changes.on(x);
            x.back();
            change(x);
            x.back();
        }).equals(FULL), true);
        nextNumbers();
        Calls.due("an image of a new object", Whole.andThen(x -> {
            x.image();
            full(x);
            x.back();
        }).equals(Whole.andThen(x -> { })), true);
        Calls.due("an image of a crowded one", Whole.andThen(x -> {
            crowded(x);
            x.image();
            x.seasons(40);
            x.back();
        }).equals(Whole.andThen(EdgesOfCallsTest::crowded)), true);
    }

    /** What comes behind going back has the numbers that it would have had. */
    private static void nextNumbers() {
        GreatEstate x = new GreatEstate();
        full(x);
        x.image();
        change(x);
        x.back();
        Calls.due("tellings", x.price(1, 0, 20), 3);
        Calls.due("works", x.job(1, 1, 1), 3);
        Calls.due("troubles", x.trouble(1, 1), 2);
        Calls.due("holdings", x.keep(40, 40, 2, 0, 0), 7);
        Calls.due("loans", x.loan(1, 0, 1, true), 1);
        Calls.due("texts", Calls.words(x, 6, "sell") + x.count(8), 1 + 3);
        Calls.due("wrongs", x.count(13), 2);
    }

    private static void whatAnImageLeaves() {
        Calls.sentence("(but for the TAPE, fault() and THE IMAGE itself).");
        GreatEstate x = new GreatEstate();
        Calls.tape(x, "years 5");
        x.image();
        Calls.tape(x, "years 5;sell");
        x.back();
        Calls.due("the tape as it is, not as it was", x.words(0), 2);
        x.back();
        Calls.due("used up, not as it was", x.end(1), false);
        Calls.tape(x, "bogus");
        Calls.dueNumber("a wrong text", () -> x.words(0));
        x.back();
        Calls.due("fault as it is", x.fault(), 0);
        x.image();
        x.words(0);
        x.back();
        Calls.due("fault as it is then", x.fault(), -1);
        x.back();
        Calls.due("the image stays", x.count(8), 0);
    }

    private static void back() {
        Calls.sentence("One goes back to THE IMAGE: true; false, and nothing happens, if none was kept.");
        GreatEstate x = new GreatEstate();
        x.seasons(3);
        Calls.due("none was kept", x.back(), false);
        Calls.due("nothing happens", x.count(0), 3);
        x.image();
        x.seasons(40);
        Calls.due("kept", x.back(), true);
        Calls.due("back there", x.count(0), 3);
        Calls.due("of another object none was kept", new GreatEstate().back(), false);
    }

    private static void countOfEach() {
        Calls.sentence("0 SEASON, 1 YEAR, 2 INCOME, 3 CAPITAL, 4 HOLDINGS, 5 that are not over, 6 all ARREARS, 7 all PUT, 8 texts of WORDS, 9 LINES in force, 10 LOANS, 11 all that is owed on them, 12 REIGNS (0 at first), 13 WRONG ones in all, 14 FIELDS that are SOLD, 15 what all harvests brought in coin, 16 CHARGES paid in all, 17 ROWS, 18 paid out to heirs in all.");
        GreatEstate x = new GreatEstate();
        full(x);
        int arrears = 0;
        int put = 0;
        for (int holding = 0; holding < 7; holding++) {
            arrears += x.led(holding, 3);
            put += x.led(holding, 4);
        }
        int[] due = {6, 1, x.count(2), x.count(3), 7, 7, arrears, put, 2, 5, 1, 160, 1, 2, 1, x.count(15), 3, 2, x.count(18)};
        for (int what = 0; what < due.length; what++) {
            Calls.due("count " + what, x.count(what), due[what]);
        }
        Calls.due("arrears are some", arrears > 0, true);
        Calls.due("put: a tenth of 400 less half of 140", put, 33);
    }

    private static void countOfAnother() {
        Calls.sentence("NONE for another what.");
        GreatEstate x = new GreatEstate();
        for (int what : new int[] {-1, 19, 20, 100, Integer.MIN_VALUE, Integer.MAX_VALUE}) {
            Calls.due("count " + what, x.count(what), -1);
        }
    }
}
