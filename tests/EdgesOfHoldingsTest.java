/** The sentences of promises 9 to 13 and 16 to 19 that name an edge; each has a test of its own. */
public final class EdgesOfHoldingsTest {
    public static void main(String[] args) {
        letUsesTheTape();
        yearsOfAFarm();
        rectangles();
        letDoesNotCome();
        letForced();
        letRefuses();
        keepNumbers();
        keepDoesNotCome();
        keepRefuses();
        sowing();
        sowRefuses();
        notices();
        giving();
        giveRefuses();
        ledOfEach();
        ledOver();
        ledPaid();
        ledOfOthers();
        ledRefuses();
        owedNow();
        rentNow();
        ranks();
        Calls.finish();
    }

    private static void letUsesTheTape() {
        Calls.sentence("Uses the TAPE up as a LEASE:");
        GreatEstate x = new GreatEstate();
        Calls.tape(x, "rent 5");
        Calls.due("it comes", x.let(0, 0, 0, 0, false), 0);
        Calls.due("used up", x.end(1), false);
        Calls.due("an empty lease then", x.let(1, 1, 0, 0, false), 1);
        Calls.due("asks nothing", x.rent(1), 0);
        Calls.due("the first asks still", x.rent(0), 5);
        Calls.tape(x, "rent 6");
        Calls.due("it does not come", x.let(1, 1, 0, 0, false), -1);
        Calls.due("used up by NONE", x.end(1), false);
        Calls.tape(x, "rent 6");
        Calls.dueNumber("a wrong number", () -> x.let(2, 2, 100, 0, false));
        Calls.due("used up by a throw", x.end(1), false);
        Calls.tape(x, "rent 6");
        Calls.dueIndex("no such field", () -> x.let(2, 48, 0, 0, false));
        Calls.due("used up by a throw of an index", x.end(1), false);
        Calls.tape(x, "sell");
        Calls.dueNumber("words of the estate", () -> x.let(2, 2, 0, 0, false));
        Calls.due("used up by a wrong text", x.end(1), false);
        Calls.tape(x, "rent 6");
        x.keep(3, 3, 2, 0, 0);
        Calls.due("keep leaves it", x.end(6), true);
    }

    private static void yearsOfAFarm() {
        Calls.sentence("a FARM (years above 0: to the end of the last of so many YEARS, this one the first) or a YEARLY (years 0)");
        for (int season = 0; season < 5; season++) {
            GreatEstate x = new GreatEstate();
            x.seasons(season);
            Calls.farm(x, 0, 0, 1, 0, "");
            Calls.farm(x, 1, 1, 2, 0, "");
            Calls.farm(x, 2, 2, 99, 0, "");
            Calls.farm(x, 3, 3, 0, 0, "");
            int year = season / 4;
            Calls.due("kind", x.led(0, 0), 0);
            Calls.due("1 year from season " + season, x.led(0, 5), 4 * year + 3);
            Calls.due("2 years from season " + season, x.led(1, 5), 4 * year + 7);
            Calls.due("99 years from season " + season, x.led(2, 5), 4 * year + 395);
            Calls.due("kind of years 0", x.led(3, 0), 1);
            Calls.due("no last season", x.led(3, 5), -1);
            x.seasons(4 * year + 3 - season);
            Calls.due("in its last season", x.led(0, 6), 0);
            x.seasons(1);
            Calls.due("it is over", x.led(0, 6), 1);
            Calls.due("the other goes on", x.led(1, 6), 0);
            x.seasons(4);
            Calls.due("the other is over", x.led(1, 6), 1);
            x.seasons(40);
            Calls.due("a yearly goes on", x.led(3, 6), 0);
        }
        GreatEstate y = new GreatEstate();
        for (int i = 0; i < 10; i++) {
            y.seasons(40);
        }
        Calls.farm(y, 0, 0, 1, 0, "");
        Calls.due("at the last season", y.led(0, 5), 403);
    }

    private static void rectangles() {
        Calls.sentence("of all FIELDS of a rectangle (corners), with a TENANT of so much COIN: the HOLDING;");
        int[][] corners = {{10, 28}, {28, 10}, {12, 26}, {26, 12}};
        for (int[] c : corners) {
            GreatEstate x = new GreatEstate();
            Calls.due("the holding", Calls.yearly(x, c[0], c[1], 17, ""), 0);
            Calls.due("nine fields", x.led(0, 1), 9);
            for (int field = 0; field < 48; field++) {
                boolean in = field / 8 >= 1 && field / 8 <= 3 && field % 8 >= 2 && field % 8 <= 4;
                Calls.due("holder of " + field, x.look(field, 10), in ? 0 : -1);
            }
            Calls.due("coin", x.led(0, 2), 17);
        }
        GreatEstate y = new GreatEstate();
        Calls.due("all", Calls.yearly(y, 40, 7, 100000, ""), 0);
        Calls.due("48", y.led(0, 1), 48);
        GreatEstate z = new GreatEstate();
        Calls.due("one", Calls.yearly(z, 23, 23, 0, ""), 0);
        Calls.due("1", z.led(0, 1), 1);
        Calls.due("the end of a row, and the begin of the next: two whole rows", z.keep(31, 32, 2, 0, 0), 1);
        Calls.due("16", z.led(1, 1), 16);
    }

    private static void letDoesNotCome() {
        Calls.sentence("NONE, and it does not come, if a FIELD of it is SOLD or of a HOLDING, or there are 24, or the WORDS do not let");
        GreatEstate x = new GreatEstate();
        x.sell(9, true);
        Calls.due("its last field is sold", Calls.yearly(x, 0, 9, 5, ""), -1);
        Calls.due("its first field is sold", Calls.yearly(x, 9, 18, 5, ""), -1);
        Calls.due("its only field is sold", Calls.yearly(x, 9, 9, 5, ""), -1);
        x.keep(20, 20, 2, 0, 0);
        Calls.due("a field is kept", Calls.yearly(x, 19, 20, 5, ""), -1);
        Calls.yearly(x, 30, 30, 0, "");
        Calls.due("a field is let", Calls.yearly(x, 30, 31, 5, ""), -1);
        Calls.due("the words do not let", x.let(0, 0, 1, 5, false), -1);
        Calls.due("two holdings", x.count(4), 2);
        for (int field : new int[] {0, 8, 10, 17, 18, 19, 31}) {
            Calls.due("field " + field + " is of none", x.look(field, 10), -1);
        }
        x.give(0);
        Calls.due("no more kept: it may be let", Calls.yearly(x, 19, 20, 5, ""), 2);
        GreatEstate y = new GreatEstate();
        for (int i = 0; i < 24; i++) {
            Calls.yearly(y, i, i, 0, "");
        }
        Calls.due("there are 24", Calls.yearly(y, 40, 40, 0, ""), -1);
        Calls.due("there are 24, forced", Calls.farm(y, 40, 40, 1, 0, ""), -1);
        Calls.due("nothing was wrong", y.count(13), 0);
        Calls.due("of none", y.look(40, 10), -1);
    }

    private static void letForced() {
        Calls.sentence("or the WORDS do not let (forced: it comes, and is WRONG).");
        GreatEstate x = new GreatEstate();
        Calls.words(x, 0, "years 2");
        Calls.due("3 years, forced", Calls.farm(x, 0, 0, 3, 0, ""), 0);
        Calls.due("wrong", x.count(13), 1);
        Calls.due("2 years, forced", Calls.farm(x, 1, 1, 2, 0, ""), 1);
        Calls.due("not wrong", x.count(13), 1);
        Calls.due("a yearly, forced", Calls.farm(x, 2, 2, 0, 0, ""), 2);
        Calls.due("not wrong either", x.count(13), 1);
        Calls.due("upon a holding, forced", Calls.farm(x, 2, 3, 3, 0, ""), -1);
        x.sell(4, true);
        Calls.due("upon a sold field, forced", Calls.farm(x, 4, 4, 3, 0, ""), -1);
        Calls.due("the sale alone was wrong", x.count(13), 2);
    }

    private static void letRefuses() {
        Calls.sentence("IllegalArgumentException: years (0 to 99) or COIN (0 to 100000) are none, then: the text is wrong.");
        GreatEstate x = new GreatEstate();
        Calls.words(x, 0, "years 99");
        Calls.due("the most", x.let(0, 0, 99, 100000, false), 0);
        Calls.due("the least", x.let(1, 1, 0, 0, false), 1);
        for (int years : new int[] {-1, 100, Integer.MIN_VALUE, Integer.MAX_VALUE}) {
            Calls.dueNumber("years " + years, () -> x.let(2, 2, years, 0, true));
            Calls.dueIndex("years " + years + " of no field", () -> x.let(2, 48, years, 0, true));
        }
        for (int coin : new int[] {-1, 100001, Integer.MIN_VALUE, Integer.MAX_VALUE}) {
            Calls.dueNumber("coin " + coin, () -> x.let(2, 2, 0, coin, true));
            Calls.dueIndex("coin " + coin + " of no field", () -> x.let(-1, 2, 0, coin, true));
        }
        Calls.tape(x, "rent x");
        Calls.dueNumber("years and the text are wrong", () -> x.let(2, 2, 100, 0, true));
        Calls.due("years are told first: it was not read", x.fault(), -1);
        Calls.tape(x, "rent x");
        Calls.dueNumber("coin and the text are wrong", () -> x.let(2, 2, 0, -1, true));
        Calls.due("coin is told first: it was not read", x.fault(), -1);
        Calls.tape(x, "rent x");
        Calls.dueNumber("the text is wrong", () -> x.let(2, 2, 0, 0, true));
        Calls.due("it was read", x.fault(), 5);
        Calls.tape(x, "rent x");
        Calls.dueNumber("the text is wrong, and the field is let", () -> x.let(0, 0, 0, 0, true));
        Calls.due("two holdings", x.count(4), 2);
    }

    private static void keepNumbers() {
        Calls.sentence("A HAND (2), WOOD (3), MINE (4; number: TONS that it digs a YEAR, 0 to 2000; other: ROYALTY a ton, 0 to 100) or COTTAGE (5; number: RENT a YEAR, 0 to 1000) of such FIELDS: the HOLDING;");
        GreatEstate x = new GreatEstate();
        Calls.due("a hand, no number is asked", x.keep(0, 0, 2, -1, Integer.MAX_VALUE), 0);
        Calls.due("a wood, no number is asked", x.keep(1, 1, 3, 2001, -1), 1);
        Calls.due("a mine of the most", x.keep(2, 2, 4, 2000, 100), 2);
        Calls.due("a mine of the least", x.keep(3, 3, 4, 0, 0), 3);
        Calls.due("a cottage of the most, no other is asked", x.keep(4, 4, 5, 1000, -1), 4);
        Calls.due("a cottage of the least", x.keep(5, 5, 5, 0, Integer.MIN_VALUE), 5);
        x.seasons(4);
        int[] paid = {0, 0, 200000, 0, 1000, 0};
        int[] tons = {0, 0, 2000, 0, 0, 0};
        for (int holding = 0; holding < 6; holding++) {
            Calls.due("paid by " + holding, x.led(holding, 7), paid[holding]);
            Calls.due("tons of " + holding, x.led(holding, 8), tons[holding]);
        }
        Calls.due("income", x.count(2), 201000);
    }

    private static void keepDoesNotCome() {
        Calls.sentence("NONE likewise (it needs no WORDS).");
        GreatEstate x = new GreatEstate();
        Calls.due("without words", x.keep(0, 9, 2, 0, 0), 0);
        Calls.due("nothing is wrong", x.count(13), 0);
        for (int kind = 2; kind <= 5; kind++) {
            Calls.due("upon a holding", x.keep(9, 18, kind, 0, 0), -1);
        }
        x.sell(20, true);
        for (int kind = 2; kind <= 5; kind++) {
            Calls.due("upon a sold field", x.keep(19, 20, kind, 0, 0), -1);
        }
        Calls.due("one holding", x.count(4), 1);
        Calls.due("of none", x.look(19, 10), -1);
        GreatEstate y = new GreatEstate();
        for (int i = 0; i < 24; i++) {
            y.keep(i, i, 2, 0, 0);
        }
        Calls.due("there are 24", y.keep(30, 30, 5, 0, 0), -1);
        y.give(0);
        Calls.due("one given up keeps its number", y.keep(30, 30, 5, 0, 0), -1);
    }

    private static void keepRefuses() {
        Calls.sentence("IllegalArgumentException: the kind or a number is none.");
        GreatEstate x = new GreatEstate();
        for (int kind : new int[] {-1, 0, 1, 6, Integer.MIN_VALUE, Integer.MAX_VALUE}) {
            Calls.dueNumber("kind " + kind, () -> x.keep(0, 0, kind, 0, 0));
            Calls.dueIndex("kind " + kind + " of no field", () -> x.keep(0, 48, kind, 0, 0));
        }
        for (int tons : new int[] {-1, 2001, Integer.MIN_VALUE, Integer.MAX_VALUE}) {
            Calls.dueNumber("tons " + tons, () -> x.keep(0, 0, 4, tons, 0));
        }
        for (int royalty : new int[] {-1, 101, Integer.MIN_VALUE, Integer.MAX_VALUE}) {
            Calls.dueNumber("royalty " + royalty, () -> x.keep(0, 0, 4, 0, royalty));
        }
        for (int rent : new int[] {-1, 1001, Integer.MIN_VALUE, Integer.MAX_VALUE}) {
            Calls.dueNumber("rent " + rent, () -> x.keep(0, 0, 5, rent, 0));
        }
        for (int field : new int[] {-1, 48, Integer.MIN_VALUE, Integer.MAX_VALUE}) {
            Calls.dueIndex("from " + field, () -> x.keep(field, 0, 2, 0, 0));
            Calls.dueIndex("to " + field, () -> x.keep(0, field, 2, 0, 0));
        }
        Calls.due("none came", x.count(4), 0);
        x.keep(0, 0, 2, 0, 0);
        Calls.dueNumber("a wrong kind upon a holding", () -> x.keep(0, 0, 6, 0, 0));
        Calls.dueNumber("a wrong number upon a holding", () -> x.keep(0, 0, 4, 2001, 0));
    }

    private static void sowing() {
        Calls.sentence("A HAND's FIELD is SOWN: the CROP from now on: whether it was another one.");
        GreatEstate x = new GreatEstate();
        x.keep(0, 1, 2, 0, 0);
        Calls.due("none upon none", x.sow(0, 0), false);
        Calls.due("wheat upon none", x.sow(0, 1), true);
        Calls.due("wheat upon wheat", x.sow(0, 1), false);
        Calls.due("of another field", x.look(1, 3), 0);
        x.seasons(1);
        Calls.due("kept by spring", x.look(0, 3), 1);
        Calls.due("barley behind spring", x.sow(0, 2), true);
        x.seasons(1);
        Calls.due("harvested", x.look(0, 9), 12);
        x.seasons(4);
        Calls.due("from now on: also the next year", x.look(0, 3), 2);
        Calls.due("none again", x.sow(0, 0), true);
        x.seasons(4);
        Calls.due("nothing grows", x.look(0, 9), 0);
    }

    private static void sowRefuses() {
        Calls.sentence("IllegalArgumentException: the CROP is not 0 to 5; ClassCastException: its HOLDING is no HAND (nor WOOD), or it has none.");
        GreatEstate x = new GreatEstate();
        for (int kind = 2; kind <= 5; kind++) {
            x.keep(kind, kind, kind, 0, 0);
        }
        Calls.yearly(x, 0, 0, 0, "");
        Calls.farm(x, 1, 1, 1, 0, "");
        x.sell(7, true);
        Calls.due("a hand", x.sow(2, 5), true);
        Calls.due("a wood", x.sow(3, 5), true);
        for (int field : new int[] {0, 1, 4, 5, 6, 7}) {
            Calls.dueKind("field " + field, () -> Calls.bit(x.sow(field, 1)));
            Calls.dueNumber("crop 6 of field " + field, () -> Calls.bit(x.sow(field, 6)));
        }
        for (int crop : new int[] {-1, 6, Integer.MIN_VALUE, Integer.MAX_VALUE}) {
            Calls.dueNumber("crop " + crop, () -> Calls.bit(x.sow(2, crop)));
            Calls.dueIndex("crop " + crop + " of no field", () -> Calls.bit(x.sow(48, crop)));
        }
        Calls.dueIndex("field -1", () -> Calls.bit(x.sow(-1, 1)));
        x.give(0);
        Calls.dueKind("given up", () -> Calls.bit(x.sow(2, 1)));
        Calls.due("not sown", x.look(2, 3), 0);
    }

    private static void notices() {
        Calls.sentence("NOTICE to a YEARLY: true; false, if it has it. ClassCastException: it is none.");
        GreatEstate x = new GreatEstate();
        for (int kind = 2; kind <= 5; kind++) {
            x.keep(kind, kind, kind, 0, 0);
        }
        Calls.farm(x, 1, 1, 1, 0, "");
        Calls.yearly(x, 0, 0, 0, "");
        Calls.due("without", x.led(5, 10), 0);
        Calls.due("notice", x.notice(5), true);
        Calls.due("with", x.led(5, 10), 1);
        Calls.due("again", x.notice(5), false);
        Calls.due("with it still", x.led(5, 10), 1);
        for (int holding = 0; holding < 5; holding++) {
            int h = holding;
            Calls.dueKind("holding " + h, () -> Calls.bit(x.notice(h)));
        }
        for (int holding : new int[] {-1, 6, 24, Integer.MIN_VALUE, Integer.MAX_VALUE}) {
            Calls.dueIndex("holding " + holding, () -> Calls.bit(x.notice(holding)));
        }
        x.seasons(3);
        Calls.due("till the winter's end", x.led(5, 6), 0);
        x.seasons(1);
        Calls.due("over", x.led(5, 6), 1);
        Calls.due("it has it still", x.notice(5), false);
        Calls.dueKind("a farm that is over", () -> Calls.bit(x.notice(4)));
        GreatEstate y = new GreatEstate();
        Calls.yearly(y, 0, 0, 0, "");
        y.seasons(3);
        y.notice(0);
        y.seasons(1);
        Calls.due("in winter itself", y.led(0, 6), 1);
    }

    private static void giving() {
        Calls.sentence("A HOLDING that the estate keeps (HAND, WOOD, MINE, COTTAGE) is given up at once: its FIELDS are of none, their CROPS 0: how many.");
        for (int kind = 2; kind <= 5; kind++) {
            GreatEstate x = new GreatEstate();
            x.keep(0, 10, kind, 100, 1);
            x.keep(3, 3, 2, 0, 0);
            x.sow(3, 4);
            if (kind < 4) {
                x.sow(10, 4);
            }
            Calls.due("six fields", x.give(0), 6);
            for (int field : new int[] {0, 1, 2, 8, 9, 10}) {
                Calls.due("of none", x.look(field, 10), -1);
                Calls.due("no crop", x.look(field, 3), 0);
            }
            Calls.due("another one stays", x.look(3, 10) * 10 + x.look(3, 3), 14);
            x.seasons(8);
            Calls.due("it pays nothing more", x.led(0, 7), 0);
            Calls.due("nor digs", x.led(0, 8), 0);
        }
        Calls.sentence("(It keeps its number, without FIELDS.)");
        GreatEstate y = new GreatEstate();
        y.keep(0, 0, 2, 0, 0);
        y.give(0);
        Calls.due("its kind", y.led(0, 0), 2);
        Calls.due("no fields", y.led(0, 1), 0);
        Calls.due("over", y.led(0, 6), 1);
        Calls.due("given up again: none", y.give(0), 0);
        Calls.due("the next number", y.keep(0, 0, 2, 0, 0), 1);
        Calls.due("of the next one", y.look(0, 10), 1);
        Calls.due("none of the first", y.give(0), 0);
        Calls.due("it stays of the next one", y.look(0, 10), 1);
    }

    private static void giveRefuses() {
        Calls.sentence("ClassCastException: it is let.");
        GreatEstate x = new GreatEstate();
        Calls.farm(x, 0, 0, 1, 0, "");
        Calls.yearly(x, 1, 1, 0, "");
        x.notice(1);
        Calls.dueKind("a farm", () -> x.give(0));
        Calls.dueKind("a yearly", () -> x.give(1));
        Calls.due("nothing happened", x.led(0, 1), 1);
        x.seasons(4);
        Calls.dueKind("a farm that is over", () -> x.give(0));
        Calls.dueKind("a yearly that is over", () -> x.give(1));
        for (int holding : new int[] {-1, 2, 24, Integer.MIN_VALUE, Integer.MAX_VALUE}) {
            Calls.dueIndex("holding " + holding, () -> x.give(holding));
        }
    }

    private static void ledOfEach() {
        Calls.sentence("5 the last SEASON (FARM; NONE of others)");
        GreatEstate x = new GreatEstate();
        for (int kind = 2; kind <= 5; kind++) {
            x.keep(kind, kind, kind, 0, 0);
        }
        Calls.yearly(x, 0, 0, 0, "");
        Calls.farm(x, 1, 1, 5, 0, "");
        for (int holding = 0; holding < 5; holding++) {
            Calls.due("none of " + holding, x.led(holding, 5), -1);
        }
        Calls.due("of a farm", x.led(5, 5), 19);
        x.notice(4);
        x.seasons(20);
        Calls.due("of a yearly that is over", x.led(4, 5), -1);
        Calls.due("of a farm that is over", x.led(5, 5), 19);
    }

    private static void ledOver() {
        Calls.sentence("6 1 if it is over (ended, given up, or without FIELDS)");
        GreatEstate x = new GreatEstate();
        Calls.farm(x, 0, 0, 1, 0, "");
        Calls.yearly(x, 1, 1, 0, "");
        x.keep(2, 2, 2, 0, 0);
        x.keep(3, 3, 5, 0, 0);
        for (int holding = 0; holding < 4; holding++) {
            Calls.due("not over", x.led(holding, 6), 0);
        }
        Calls.due("all go on", x.count(5), 4);
        x.give(2);
        Calls.due("given up", x.led(2, 6), 1);
        Calls.due("three go on", x.count(5), 3);
        x.seasons(4);
        Calls.due("ended", x.led(0, 6), 1);
        Calls.due("without fields", x.led(0, 1), 0);
        Calls.due("not ended", x.led(1, 6), 0);
        Calls.due("two go on", x.count(5), 2);
        Calls.due("holdings stay", x.count(4), 4);
    }

    private static void ledPaid() {
        Calls.sentence("7 what it paid in all (RENT, ROYALTY, harvests of HAND and WOOD)");
        GreatEstate x = new GreatEstate();
        x.keep(0, 0, 2, 0, 0);
        x.keep(1, 1, 3, 0, 0);
        x.keep(2, 2, 4, 10, 3);
        x.keep(3, 3, 5, 11, 0);
        Calls.yearly(x, 40, 40, 0, "rent 12");
        x.field(1, 5, 0, 0, 0, 9);
        x.sow(0, 1);
        x.sow(1, 2);
        x.cut(1, true);
        x.seasons(4);
        int[] first = {130, 120, 30, 11, 12};
        int[] second = {250, 240, 60, 22, 24};
        for (int i = 0; i < 5; i++) {
            Calls.due("a year, by " + i, x.led(i, 7), first[i]);
        }
        x.seasons(4);
        for (int i = 0; i < 5; i++) {
            Calls.due("two years, by " + i, x.led(i, 7), second[i]);
        }
    }

    private static void ledOfOthers() {
        Calls.sentence("(2 to 4, 9 are 0 of others.)");
        GreatEstate x = new GreatEstate();
        for (int kind = 2; kind <= 5; kind++) {
            x.keep(kind, kind, kind, 50, 50);
        }
        x.seasons(8);
        for (int holding = 0; holding < 4; holding++) {
            for (int what : new int[] {2, 3, 4, 9, 10}) {
                Calls.due("led " + holding + " " + what, x.led(holding, what), 0);
            }
            Calls.due("tons of " + holding, x.led(holding, 8), holding == 2 ? 100 : 0);
        }
    }

    private static void ledRefuses() {
        Calls.sentence("(2 to 4, 9 are 0 of others.) NoSuchElementException: another what.");
        GreatEstate x = new GreatEstate();
        Calls.dueIndex("none yet", () -> x.led(0, 0));
        x.keep(0, 0, 2, 0, 0);
        for (int what : new int[] {-1, 11, Integer.MIN_VALUE, Integer.MAX_VALUE}) {
            Calls.dueNoSuch("what " + what, () -> x.led(0, what));
            Calls.dueIndex("what " + what + " of none", () -> x.led(1, what));
        }
        for (int holding : new int[] {-1, 1, 24, Integer.MIN_VALUE, Integer.MAX_VALUE}) {
            Calls.dueIndex("holding " + holding, () -> x.led(holding, 0));
        }
    }

    private static void owedNow() {
        Calls.sentence("What a TENANT would be owed, if it went OUT now, ahead of what is kept back. ClassCastException: it is not let.");
        GreatEstate x = new GreatEstate();
        x.keep(47, 47, 5, 1000, 0);
        x.seasons(3);
        x.field(0, 0, 9, 20, 0, 0);
        Calls.yearly(x, 0, 1, 0, "owe lime 10;owe drain 1;rent 700;waste 5 if worn>19");
        Calls.due("nothing is there: less waste, 0 at least", x.owed(1), 0);
        x.work(0, true);
        x.work(1, false);
        Calls.due("60, 20, less 5", x.owed(1), 75);
        x.seasons(4);
        Calls.due("it has arrears", x.led(1, 3) > 0, true);
        Calls.due("they are not taken off yet: 50, 19, less 5", x.owed(1), 64);
        x.notice(1);
        x.seasons(4);
        Calls.due("over: nothing", x.owed(1), 0);
        for (int kind = 2; kind <= 5; kind++) {
            x.keep(10 + kind, 10 + kind, kind, 0, 0);
            int h = kind;
            Calls.dueKind("kind " + kind, () -> x.owed(h));
        }
        for (int holding : new int[] {-1, 6, Integer.MIN_VALUE, Integer.MAX_VALUE}) {
            Calls.dueIndex("holding " + holding, () -> x.owed(holding));
        }
    }

    private static void rentNow() {
        Calls.sentence("RENT of a TENANT by the words of its LEASE and the PRICES of this YEAR (without what GAME ate). ClassCastException likewise.");
        GreatEstate x = new GreatEstate();
        x.field(0, 5, 0, 0, 99, 0);
        Calls.yearly(x, 0, 0, 0, "rent 100;game 100;put 100 if 1<2;corn 1 of wheat;corn 2 of grass");
        Calls.due("at first", x.rent(0), 130);
        x.seasons(2);
        Calls.due("game has eaten: the same", x.rent(0), 130);
        x.price(1, 0, 0);
        x.price(4, 0, 100);
        Calls.due("by prices", x.rent(0), 300);
        x.price(4, 1, 50);
        Calls.due("not of the next year", x.rent(0), 300);
        x.seasons(2);
        Calls.due("of the next year", x.rent(0), 210);
        Calls.yearly(x, 1, 1, 0, "");
        Calls.due("no line", x.rent(1), 0);
        for (int kind = 2; kind <= 5; kind++) {
            x.keep(10 + kind, 10 + kind, kind, 0, 0);
            int h = kind;
            Calls.dueKind("kind " + kind, () -> x.rent(h));
        }
        for (int holding : new int[] {-1, 6, Integer.MIN_VALUE, Integer.MAX_VALUE}) {
            Calls.dueIndex("holding " + holding, () -> x.rent(holding));
        }
    }

    private static void ranks() {
        Calls.sentence("The one of RANK n (from 0 on) by ARREARS of those that have some (the greatest first, of several the least number); NONE if there is none such.");
        GreatEstate x = new GreatEstate();
        int[] rents = {5, 9, 0, 9, 1, 9};
        for (int i = 0; i < 6; i++) {
            x.field(i, 0, 9, 20, 0, 0);
            Calls.yearly(x, i, i, 0, "rent " + rents[i]);
        }
        x.keep(6, 6, 2, 0, 0);
        Calls.due("none has any", x.arrears(0), -1);
        x.seasons(3);
        int[] ranks = {1, 3, 5, 0, 4, -1, -1};
        for (int n = 0; n < ranks.length; n++) {
            Calls.due("rank " + n, x.arrears(n), ranks[n]);
        }
        for (int n : new int[] {-1, 24, Integer.MIN_VALUE, Integer.MAX_VALUE}) {
            Calls.due("rank " + n, x.arrears(n), -1);
        }
        x.notice(1);
        x.seasons(1);
        Calls.due("one that went out has none", x.arrears(0), 3);
        Calls.due("the last", x.arrears(3), 4);
        Calls.due("no more", x.arrears(4), -1);
    }
}
