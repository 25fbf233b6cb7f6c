/** The sentences of "Terms" that name an edge, and those of promises 1 to 8, 14 and 15; each has a test of its own. */
public final class EdgesOfTermsTest {
    public static void main(String[] args) {
        fortyEightFields();
        besideDoesNotGoRound();
        fieldsAtFirst();
        soilWetWorn();
        gameAndAge();
        cropsOfAField();
        drainAndLime();
        sunk();
        yieldOfTheLatestHarvest();
        ofOneHoldingOrOfNone();
        seasonsFirstAndLast();
        yearsOfSeasons();
        rainNumbers();
        rainThatIsNoNumber();
        rainAtTheEnds();
        prices();
        knownUpToThen();
        fallowHasNoPrice();
        twentyFourHoldings();
        coinIsNotBelowZero();
        newObject();
        feeding();
        ending();
        fieldSets();
        raining();
        felling();
        telling();
        knowing();
        passing();
        looking();
        fiveHundredAndTwelve();
        Calls.finish();
    }

    private static int set(GreatEstate x, int field, int what, int n) {
        int[] all = {5, 0, 0, 0, 0};
        all[what] = n;
        return Calls.bit(x.field(field, all[0], all[1], all[2], all[3], all[4]));
    }

    private static int rain(GreatEstate x, int year, int n, boolean is) {
        x.rain(year, n, is);
        return 0;
    }

    private static void fortyEightFields() {
        Calls.sentence("FIELDS (48, numbered 8 y + x; x 0 to 7, y 0 to 5;");
        GreatEstate x = new GreatEstate();
        Calls.due("the first", x.look(0, 0), 5);
        Calls.due("the last", x.look(47, 0), 5);
        for (int field : new int[] {-1, 48, Integer.MIN_VALUE, Integer.MAX_VALUE}) {
            Calls.dueIndex("look " + field, () -> x.look(field, 0));
        }
        Calls.due("the last column", x.keep(47, 7, 2, 0, 0), 0);
        Calls.due("has six", x.led(0, 1), 6);
        for (int row = 0; row < 6; row++) {
            Calls.due("of row " + row, x.look(8 * row + 7, 10), 0);
        }
        Calls.due("what is left of the first row", x.keep(0, 6, 2, 0, 0), 1);
        Calls.due("has seven", x.led(1, 1), 7);
        Calls.due("the begin of the next is of none", x.look(8, 10), -1);
    }

    private static void besideDoesNotGoRound() {
        Calls.sentence("beside: above, below, right, left)");
        besideOf(0, 1, 8);
        besideOf(7, 6, 15);
        besideOf(8, 0, 9, 16);
        besideOf(15, 7, 14, 23);
        besideOf(40, 32, 41);
        besideOf(47, 39, 46);
        besideOf(3, 2, 4, 11);
        besideOf(44, 36, 43, 45);
        besideOf(27, 19, 26, 28, 35);
    }

    /** Those beside a WOOD have 1 GAME more by winter. */
    private static void besideOf(int wood, int... beside) {
        GreatEstate x = new GreatEstate();
        x.keep(wood, wood, 3, 0, 0);
        x.seasons(4);
        for (int field = 0; field < 48; field++) {
            int game = 0;
            for (int b : beside) {
                game += b == field ? 1 : 0;
            }
            Calls.due("game of " + field + " by a wood on " + wood, x.look(field, 6), game);
        }
    }

    private static void fieldsAtFirst() {
        Calls.sentence("FIELDS of no HOLDING, no WORDS, no coin; SEASON 0.");
        int[] first = {5, 0, 0, 0, 0, 0, 0, 0, 0, 0, -1, 0, 200};
        GreatEstate x = new GreatEstate();
        for (int field = 0; field < 48; field++) {
            if (field % 24 == 0) {
                x = new GreatEstate();
            }
            for (int what = 0; what < 13; what++) {
                Calls.due("look " + field + " " + what, x.look(field, what), first[what]);
            }
        }
        for (int what = 0; what < 10; what++) {
            Calls.due("may " + what, x.may(what, 0), 0);
        }
        for (int what = 0; what < 5; what++) {
            Calls.due("why " + what, x.why(what, 47), -1);
        }
        for (int what = 0; what < 19; what++) {
            Calls.due("count " + what, x.count(what), 0);
        }
    }

    private static void bounds(int what, int most) {
        GreatEstate x = new GreatEstate();
        int looked = new int[] {0, 1, 2, 6, 7}[what];
        Calls.due("the most", set(x, 0, what, most), 1);
        Calls.due("is it", x.look(0, looked), most);
        Calls.dueNumber("one more", () -> set(x, 0, what, most + 1));
        Calls.dueNumber("far more", () -> set(x, 0, what, Integer.MAX_VALUE));
        Calls.due("it stays", x.look(0, looked), most);
        Calls.due("0", set(x, 0, what, 0), 1);
        Calls.due("is it", x.look(0, looked), 0);
        Calls.dueNumber("one less", () -> set(x, 0, what, -1));
        Calls.dueNumber("far less", () -> set(x, 0, what, Integer.MIN_VALUE));
        Calls.due("it stays", x.look(0, looked), 0);
    }

    private static void soilWetWorn() {
        Calls.sentence("SOIL (0 to 9; 5 at first)");
        Calls.due("at first", new GreatEstate().look(17, 0), 5);
        bounds(0, 9);
        Calls.sentence("WET (0 to 9; 0 at first)");
        Calls.due("at first", new GreatEstate().look(17, 1), 0);
        bounds(1, 9);
        Calls.sentence("WORN (0 to 20; 0 at first)");
        Calls.due("at first", new GreatEstate().look(17, 2), 0);
        bounds(2, 20);
    }

    private static void gameAndAge() {
        Calls.sentence("GAME (0 to 99; 0)");
        Calls.due("at first", new GreatEstate().look(17, 6), 0);
        bounds(3, 99);
        Calls.sentence("IllegalArgumentException: a number is none (AGE 0 to 300).");
        bounds(4, 300);
        Calls.sentence("AGE of its trees (0)");
        GreatEstate x = new GreatEstate();
        Calls.due("at first", x.look(17, 7), 0);
        x.field(17, 5, 0, 0, 0, 300);
        x.keep(17, 17, 3, 0, 0);
        x.seasons(8);
        Calls.due("a wood grows beyond what one may tell", x.look(17, 7), 302);
    }

    private static void cropsOfAField() {
        Calls.sentence("CROP (0 none, 1 wheat, 2 barley, 3 turnips, 4 grass, 5 fallow; 0 at first)");
        GreatEstate x = new GreatEstate();
        x.keep(0, 0, 2, 0, 0);
        Calls.due("at first", x.look(0, 3), 0);
        for (int crop = 5; crop >= 0; crop--) {
            Calls.due("sown", x.sow(0, crop), true);
            Calls.due("crop", x.look(0, 3), crop);
        }
        Calls.dueNumber("6", () -> Calls.bit(x.sow(0, 6)));
        Calls.dueNumber("-1", () -> Calls.bit(x.sow(0, -1)));
        Calls.due("it stays", x.look(0, 3), 0);
    }

    private static void drainAndLime() {
        Calls.sentence("DRAIN and LIME: years that are left of them (0)");
        GreatEstate x = new GreatEstate();
        x.keep(47, 47, 5, 1000, 0);
        x.seasons(4);
        Calls.due("no drain", x.look(0, 4), 0);
        Calls.due("no lime", x.look(0, 5), 0);
        x.work(0, false);
        x.work(0, true);
        for (int year = 0; year < 22; year++) {
            Calls.due("drain by year " + year, x.look(0, 4), Math.max(0, 20 - year));
            Calls.due("lime by year " + year, x.look(0, 5), Math.max(0, 6 - year));
            x.seasons(4);
        }
    }

    private static void sunk() {
        Calls.sentence("SUNK (0 to 9; 0)");
        GreatEstate x = new GreatEstate();
        x.keep(5, 5, 4, 100, 0);
        for (int year = 0; year < 12; year++) {
            Calls.due("sunk by year " + year, x.look(5, 8), Math.min(9, year));
            x.seasons(4);
        }
    }

    private static void yieldOfTheLatestHarvest() {
        Calls.sentence("YIELD of its latest harvest (0);");
        GreatEstate x = new GreatEstate();
        x.keep(0, 0, 2, 0, 0);
        x.sow(0, 1);
        x.seasons(1);
        Calls.due("ahead of the first summer", x.look(0, 9), 0);
        x.seasons(1);
        Calls.due("by it", x.look(0, 9), 13);
        x.sow(0, 0);
        x.seasons(3);
        Calls.due("till the next one", x.look(0, 9), 13);
        x.seasons(1);
        Calls.due("without a crop", x.look(0, 9), 0);
    }

    private static void ofOneHoldingOrOfNone() {
        Calls.sentence("it is of one HOLDING or of none.");
        GreatEstate x = new GreatEstate();
        x.keep(9, 18, 2, 0, 0);
        Calls.due("no second one upon it", x.keep(18, 27, 3, 0, 0), -1);
        Calls.due("of the first", x.look(18, 10), 0);
        Calls.due("of none", x.look(27, 10), -1);
        x.give(0);
        Calls.due("of none then", x.look(18, 10), -1);
        Calls.due("a second one then", x.keep(18, 27, 3, 0, 0), 1);
        Calls.due("of the second", x.look(18, 10), 1);
    }

    private static void seasonsFirstAndLast() {
        Calls.sentence("SEASON: 0 at first, 400 at last;");
        GreatEstate x = new GreatEstate();
        Calls.due("at first", x.count(0), 0);
        for (int i = 1; i <= 10; i++) {
            Calls.due("forty more", x.seasons(40), 40 * i);
        }
        Calls.due("none more", x.seasons(40), 400);
        Calls.due("at last", x.count(0), 400);
    }

    private static void yearsOfSeasons() {
        Calls.sentence("of a YEAR (SEASON by 4, rounded down) its four are 0 spring, 1 summer, 2 autumn, 3 winter (SEASON modulo 4).");
        GreatEstate x = new GreatEstate();
        x.keep(0, 0, 5, 7, 0);
        x.keep(1, 1, 3, 0, 0);
        x.sow(1, 1);
        Calls.yearly(x, 2, 2, 0, "");
        for (int season = 0; season < 9; season++) {
            Calls.due("year", x.count(1), season / 4);
            Calls.due("springs by the crop, season " + season, x.look(2, 3), season > 0 ? 1 : 0);
            Calls.due("summers by rows, season " + season, x.count(17), (season + 2) / 4);
            Calls.due("autumns by rents, season " + season, x.led(0, 7), 7 * ((season + 1) / 4));
            Calls.due("winters by age, season " + season, x.look(1, 7), season / 4);
            x.seasons(1);
        }
        Calls.sentence("A step: what belongs to the SEASON that is ends it; then SEASON is one more.");
        GreatEstate y = new GreatEstate();
        Calls.yearly(y, 0, 0, 0, "");
        Calls.due("spring is, nothing of it has been", y.look(0, 3), 0);
        Calls.due("one more", y.seasons(1), 1);
        Calls.due("what belongs to it has been", y.look(0, 3), 1);
        for (int i = 0; i < 9; i++) {
            y.seasons(40);
        }
        y.keep(9, 9, 5, 7, 0);
        y.seasons(38);
        Calls.due("winter of the last year is", y.count(0), 399);
        y.keep(8, 8, 3, 0, 0);
        Calls.due("it ends", y.seasons(40), 400);
        Calls.due("what belongs to it has been once", y.look(8, 7), 1);
        y.seasons(40);
        Calls.due("no spring behind it", y.look(8, 7), 1);
    }

    private static void rainNumbers() {
        Calls.sentence("RAIN of a YEAR (- 5 to 5; 0 at first)");
        GreatEstate x = new GreatEstate();
        Calls.due("at first", x.fell(0), 0);
        Calls.due("at first of the last year", x.fell(100), 0);
        for (int n = -5; n <= 5; n++) {
            x.rain(7, n, true);
            Calls.due("rain", x.fell(7), n);
        }
        Calls.dueNumber("6", () -> rain(x, 7, 6, true));
        Calls.dueNumber("-6", () -> rain(x, 7, -6, true));
        Calls.due("it stays", x.fell(7), 5);
    }

    private static void rainThatIsNoNumber() {
        Calls.sentence("or no number: then it is the sum of those of the YEARS right ahead and right behind by 2, rounded toward 0");
        for (int ahead = -5; ahead <= 5; ahead++) {
            GreatEstate x = new GreatEstate();
            x.rain(41, 0, false);
            x.rain(40, ahead, true);
            for (int behind = -5; behind <= 5; behind++) {
                x.rain(42, behind, true);
                int sum = Math.abs(ahead + behind);
                Calls.due(ahead + " and " + behind, x.fell(41), ahead + behind < 0 ? -(sum / 2) : sum / 2);
            }
        }
    }

    private static void rainAtTheEnds() {
        Calls.sentence("(one that is no number, or ahead of YEAR 0, counts 0)");
        GreatEstate x = new GreatEstate();
        x.rain(0, 0, false);
        x.rain(1, -5, true);
        Calls.due("ahead of year 0: -5 by 2", x.fell(0), -2);
        x.rain(1, 0, false);
        x.rain(2, 5, true);
        Calls.due("both ahead and behind are none", x.fell(0), 0);
        Calls.due("one that is no number: 5 by 2", x.fell(1), 2);
        x.rain(2, 0, false);
        Calls.due("no numbers all about", x.fell(1), 0);
        x.rain(100, 0, false);
        x.rain(99, -5, true);
        Calls.due("behind year 100 none was told", x.fell(100), -2);
        x.rain(99, 0, false);
        Calls.due("nothing counts", x.fell(100), 0);
        x.rain(99, 4, true);
        x.rain(100, 3, true);
        Calls.due("told again", x.fell(100), 3);
        x.keep(0, 0, 2, 0, 0);
        x.sow(0, 1);
        x.rain(1, -4, true);
        x.seasons(2);
        Calls.due("it counts so in summer", x.look(0, 9), 13 - 2);
    }

    private static void prices() {
        Calls.sentence("PRICES of a YEAR (0 to 100 each, of wheat, barley, turnips, grass; 10 at first; told for YEARS 0 to 100)");
        GreatEstate x = new GreatEstate();
        for (int crop = 1; crop <= 4; crop++) {
            int c = crop;
            Calls.due("at first", x.known(c, 0, 0), 10);
            Calls.due("at first of the last year", x.known(c, 100, 400), 10);
            Calls.due("0", x.price(c, 0, 0) > 0, true);
            Calls.due("is it", x.known(c, 0, 0), 0);
            Calls.due("100", x.price(c, 100, 100) > 0, true);
            Calls.due("is it", x.known(c, 100, 0), 100);
            Calls.dueNumber("101", () -> x.price(c, 0, 101));
            Calls.dueNumber("-1", () -> x.price(c, 0, -1));
            Calls.dueNumber("year 101", () -> x.price(c, 101, 5));
            Calls.dueNumber("year -1", () -> x.price(c, -1, 5));
        }
        Calls.due("so many were told", x.price(1, 1, 1), 9);
    }

    private static void knownUpToThen() {
        Calls.sentence("KNOWN at a SEASON: what was told up to then (of one YEAR and CROP the latest telling; else 10).");
        GreatEstate x = new GreatEstate();
        x.seasons(3);
        x.price(1, 9, 20);
        x.price(1, 9, 21);
        x.seasons(4);
        x.price(1, 9, 30);
        x.price(1, 8, 77);
        x.price(2, 9, 78);
        Calls.due("ahead of the first telling", x.known(1, 9, 2), 10);
        Calls.due("in its season, the latest of two", x.known(1, 9, 3), 21);
        Calls.due("right ahead of the next", x.known(1, 9, 6), 21);
        Calls.due("in the next one's season", x.known(1, 9, 7), 30);
        Calls.due("at the last season", x.known(1, 9, 400), 30);
        Calls.due("behind every season", x.known(1, 9, Integer.MAX_VALUE), 30);
        Calls.due("ahead of every season", x.known(1, 9, -1), 10);
        Calls.due("far ahead", x.known(1, 9, Integer.MIN_VALUE), 10);
        Calls.sentence("What is called PRICE alone is as KNOWN at the SEASON that is;");
        GreatEstate y = new GreatEstate();
        Calls.yearly(y, 0, 0, 0, "corn 1 of wheat");
        Calls.due("at first", y.rent(0), 10);
        y.price(1, 0, 33);
        y.price(1, 1, 44);
        Calls.due("as told now", y.rent(0), 33);
        y.seasons(4);
        Calls.due("of the next year", y.rent(0), 44);
    }

    private static void fallowHasNoPrice() {
        Calls.sentence("fallow has 0.");
        GreatEstate x = new GreatEstate();
        Calls.yearly(x, 0, 0, 0, "corn 999999 of fallow;corn 2 of grass");
        Calls.due("corn of fallow is nothing", x.rent(0), 20);
        Calls.dueNumber("none can be told", () -> x.price(5, 0, 9));
        Calls.due("still nothing", x.rent(0), 20);
    }

    private static void twentyFourHoldings() {
        Calls.sentence("HOLDINGS (at most 24, numbered from 0 on)");
        GreatEstate x = new GreatEstate();
        for (int i = 0; i < 24; i++) {
            Calls.due("number " + i, x.keep(i, i, 2 + i % 4, 0, 0), i);
            Calls.due("so many", x.count(4), i + 1);
        }
        Calls.due("no 25th", x.keep(30, 30, 2, 0, 0), -1);
        Calls.due("so many still", x.count(4), 24);
        Calls.due("its field is of none", x.look(30, 10), -1);
        Calls.dueIndex("none of number 24", () -> x.led(24, 0));
        Calls.due("the last", x.led(23, 0), 2 + 23 % 4);
    }

    private static void coinIsNotBelowZero() {
        Calls.sentence("A FARM, YEARLY has a TENANT with COIN (may be below 0: no), ARREARS, what is PUT off.");
        GreatEstate x = new GreatEstate();
        x.field(0, 0, 9, 20, 0, 0);
        Calls.yearly(x, 0, 0, 3, "rent 10;put 50 if year<1");
        x.seasons(3);
        Calls.due("3 of 5 are paid", x.led(0, 7), 3);
        Calls.due("coin", x.led(0, 2), 0);
        Calls.due("arrears", x.led(0, 3), 2);
        Calls.due("put", x.led(0, 4), 5);
        x.seasons(4);
        Calls.due("none is paid of nothing", x.led(0, 7), 3);
        Calls.due("coin still", x.led(0, 2), 0);
        Calls.due("arrears then", x.led(0, 3), 2 + 10 + 5);
        Calls.due("nothing is put then", x.led(0, 4), 0);
    }

    private static void newObject() {
        Calls.sentence("`GreatEstate()`: FIELDS of no HOLDING");
        GreatEstate x = new GreatEstate();
        Calls.dueIndex("no holding", () -> x.led(0, 0));
        Calls.dueIndex("no loan", () -> x.owing(0));
        Calls.dueNoSuch("no wrong", () -> x.wrong(0, 0));
        Calls.dueNoSuch("no row", () -> x.row(0, 0));
        Calls.due("no image", x.back(), false);
        Calls.due("no tape", x.end(1), false);
        Calls.due("no arrears", x.arrears(0), -1);
        Calls.due("no fault", x.fault(), -1);
        Calls.due("nothing torn", x.check(), -1);
        Calls.due("nothing of another object", new GreatEstate().keep(0, 0, 2, 0, 0) + x.keep(0, 0, 2, 0, 0), 0);
    }

    private static void feeding() {
        Calls.sentence("Twenty bytes come behind the TAPE, of each number the highest first: how many it has;");
        GreatEstate x = new GreatEstate();
        Calls.due("20", x.feed(0x73656C6C, 0x20696620, 0x20202020, 0x20202020, 0x20202031), 20);
        Calls.due("40", x.feed(0x3C322020, 0x20202020, 0x20202020, 0x20202020, 0x3B73656C), 40);
        Calls.due("60", x.feed(0x6C202020, 0x20202020, 0x20202020, 0x20202020, 0x20202020), 60);
        Calls.due("'sell if .. 1<2 .. ;sell'", x.words(0), 2);
        Calls.sentence("NONE, and none come, if it would have more than 400.");
        GreatEstate y = new GreatEstate();
        for (int i = 1; i <= 20; i++) {
            Calls.due("feed", y.feed(0x20202020, 0x20202020, 0x20202020, 0x20202020, 0x20202020), 20 * i);
        }
        Calls.due("420 would be more", y.feed(0, 0, 0, 0, 0), -1);
        Calls.due("400 are there", y.end(401), false);
        y.end(381);
        Calls.due("401 would be more", y.feed(0, 0, 0, 0, 0), -1);
        Calls.due("381 are there", y.end(382), false);
        Calls.due("381 blanks", y.words(0), 0);
        y.feed(1, 1, 1, 1, 1);
        for (int i = 2; i <= 20; i++) {
            y.feed(0x20202020, 0x20202020, 0x20202020, 0x20202020, 0x20202020);
        }
        y.end(380);
        Calls.due("400 is not more", y.feed(0, 0, 0, 0, 0), 400);
    }

    private static void ending() {
        Calls.sentence("The TAPE has its first n bytes alone: true;");
        GreatEstate x = new GreatEstate();
        Calls.due("0 of an empty one", x.end(0), true);
        Calls.tape(x, "years 12");
        Calls.due("7 of 8", x.end(7), true);
        Calls.due("all of 7", x.end(7), true);
        Calls.due("'years 1'", x.words(0), 1);
        Calls.due("it is 1", x.may(0, 0), 1);
        Calls.tape(x, "years 12");
        Calls.due("0 of 8", x.end(0), true);
        Calls.due("an empty text", x.words(0), 0);
        Calls.sentence("false, and nothing happens, if it has fewer, or n is below 0.");
        Calls.tape(x, "years 12");
        Calls.due("9 of 8", x.end(9), false);
        Calls.due("far more", x.end(Integer.MAX_VALUE), false);
        Calls.due("-1", x.end(-1), false);
        Calls.due("far below", x.end(Integer.MIN_VALUE), false);
        Calls.due("nothing happened: 8 are there", x.end(8), true);
        Calls.due("and they are", x.words(0), 1);
        Calls.due("as they were", x.may(0, 0), 12);
        Calls.due("used up: 1 is more", x.end(1), false);
    }

    private static void fieldSets() {
        Calls.sentence("SOIL, WET, WORN, GAME and AGE of a FIELD: true;");
        GreatEstate x = new GreatEstate();
        Calls.due("the last field", x.field(47, 1, 2, 3, 4, 5), true);
        int[] now = {1, 2, 3, 0, 0, 0, 4, 5, 0, 0, -1, 0};
        for (int what = 0; what < 12; what++) {
            Calls.due("look " + what, x.look(47, what), now[what]);
            Calls.due("of another field", x.look(46, what), what == 0 ? 5 : what == 10 ? -1 : 0);
        }
        Calls.yearly(x, 0, 0, 0, "");
        Calls.due("one that is let", x.field(0, 9, 9, 9, 9, 9), true);
        Calls.due("soil", x.look(0, 0), 9);
        Calls.sentence("false, and nothing happens, if it is SOLD.");
        x.sell(47, true);
        Calls.due("a sold one", x.field(47, 9, 9, 9, 9, 9), false);
        now[11] = 1;
        for (int what = 0; what < 12; what++) {
            Calls.due("look " + what, x.look(47, what), now[what]);
        }
        Calls.dueNumber("a wrong number of a sold one", () -> Calls.bit(x.field(47, 9, 9, 9, 9, 301)));
        Calls.dueIndex("no such field, and a wrong number", () -> Calls.bit(x.field(48, -1, 9, 9, 9, 301)));
    }

    private static void raining() {
        Calls.sentence("RAIN of a YEAR (is false: no number; n is not asked then).");
        GreatEstate x = new GreatEstate();
        x.rain(2, 4, true);
        Calls.due("6 is not asked", rain(x, 1, 6, false), 0);
        Calls.due("nor the least", rain(x, 1, Integer.MIN_VALUE, false), 0);
        Calls.due("no number", x.fell(1), 2);
        Calls.sentence("IllegalArgumentException: the YEAR is not 0 to 100, or the RAIN is none.");
        Calls.due("year 0", rain(x, 0, -5, true), 0);
        Calls.due("year 100", rain(x, 100, 5, true), 0);
        Calls.dueNumber("year -1", () -> rain(x, -1, 0, true));
        Calls.dueNumber("year 101", () -> rain(x, 101, 0, true));
        Calls.dueNumber("year 101, no number", () -> rain(x, 101, 0, false));
        Calls.dueNumber("year -1, no number", () -> rain(x, -1, 0, false));
        Calls.dueNumber("rain 6", () -> rain(x, 0, 6, true));
        Calls.dueNumber("rain -6", () -> rain(x, 0, -6, true));
        Calls.dueNumber("rain far", () -> rain(x, 0, Integer.MAX_VALUE, true));
        Calls.due("nothing happened", x.fell(0), -5);
    }

    private static void felling() {
        Calls.sentence("RAIN as it counts for a YEAR. IllegalArgumentException: the YEAR is not 0 to 100.");
        GreatEstate x = new GreatEstate();
        x.rain(0, -3, true);
        x.rain(100, 3, true);
        Calls.due("year 0", x.fell(0), -3);
        Calls.due("year 100", x.fell(100), 3);
        for (int year : new int[] {-1, 101, Integer.MIN_VALUE, Integer.MAX_VALUE}) {
            Calls.dueNumber("year " + year, () -> x.fell(year));
        }
    }

    private static void telling() {
        Calls.sentence("A PRICE (of CROP 1 to 4) of a YEAR is told now: how many tellings there are; NONE, and it is not told, if there are 200.");
        GreatEstate x = new GreatEstate();
        for (int i = 1; i <= 200; i++) {
            Calls.due("telling", x.price(1, 0, i % 100), i);
        }
        Calls.due("the 200th", x.known(1, 0, 0), 0);
        Calls.due("the 201st", x.price(1, 0, 55), -1);
        Calls.due("is not told", x.known(1, 0, 0), 0);
        Calls.due("nor of another", x.price(2, 7, 55), -1);
        Calls.due("is not told either", x.known(2, 7, 0), 10);
        Calls.dueNumber("a wrong number behind 200", () -> x.price(5, 0, 55));
        Calls.sentence("price(int crop, int year, int n) throws IllegalArgumentException");
        for (int crop : new int[] {0, 5, -1, Integer.MIN_VALUE, Integer.MAX_VALUE}) {
            Calls.dueNumber("crop " + crop, () -> x.price(crop, 0, 1));
        }
        for (int year : new int[] {-1, 101, Integer.MIN_VALUE, Integer.MAX_VALUE}) {
            Calls.dueNumber("year " + year, () -> x.price(1, year, 1));
        }
        for (int n : new int[] {-1, 101, Integer.MIN_VALUE, Integer.MAX_VALUE}) {
            Calls.dueNumber("price " + n, () -> x.price(1, 0, n));
        }
    }

    private static void knowing() {
        Calls.sentence("A PRICE of a YEAR as KNOWN at a SEASON (of those told up to it). IllegalArgumentException: CROP or YEAR are none.");
        GreatEstate x = new GreatEstate();
        Calls.due("crop 1, year 0", x.known(1, 0, 0), 10);
        Calls.due("crop 4, year 100", x.known(4, 100, 0), 10);
        Calls.due("any season", x.known(4, 100, 12345), 10);
        for (int crop : new int[] {0, 5, 6, -1, Integer.MIN_VALUE, Integer.MAX_VALUE}) {
            Calls.dueNumber("crop " + crop, () -> x.known(crop, 0, 0));
        }
        for (int year : new int[] {-1, 101, Integer.MIN_VALUE, Integer.MAX_VALUE}) {
            Calls.dueNumber("year " + year, () -> x.known(1, year, 0));
        }
    }

    private static void passing() {
        Calls.sentence("So many SEASONS, as far as SEASON may go: SEASON.");
        GreatEstate x = new GreatEstate();
        Calls.due("0", x.seasons(0), 0);
        Calls.due("1", x.seasons(1), 1);
        for (int i = 0; i < 9; i++) {
            x.seasons(40);
        }
        Calls.due("37 more", x.seasons(37), 398);
        Calls.due("2 of 40", x.seasons(40), 400);
        Calls.due("0 of 1", x.seasons(1), 400);
        Calls.due("0 of 0", x.seasons(0), 400);
        Calls.sentence("SEASON. IllegalArgumentException: not 0 to 40.");
        for (int n : new int[] {-1, 41, Integer.MIN_VALUE, Integer.MAX_VALUE}) {
            Calls.dueNumber("at the end " + n, () -> x.seasons(n));
        }
        GreatEstate y = new GreatEstate();
        Calls.dueNumber("41", () -> y.seasons(41));
        Calls.dueNumber("-1", () -> y.seasons(-1));
        Calls.due("nothing happened", y.count(0), 0);
        Calls.due("40", y.seasons(40), 40);
    }

    private static void looking() {
        Calls.sentence("10 its HOLDING (NONE), 11 1 if it is SOLD, 12 WORTH. NoSuchElementException: another what.");
        GreatEstate x = new GreatEstate();
        x.keep(0, 0, 2, 0, 0);
        x.sell(1, true);
        Calls.due("holding 0", x.look(0, 10), 0);
        Calls.due("none", x.look(1, 10), -1);
        Calls.due("sold", x.look(1, 11), 1);
        Calls.due("not sold", x.look(2, 11), 0);
        Calls.due("worth", x.look(2, 12), 200);
        for (int what : new int[] {-1, 13, Integer.MIN_VALUE, Integer.MAX_VALUE}) {
            Calls.dueNoSuch("what " + what, () -> x.look(0, what));
            Calls.dueIndex("no field and what " + what, () -> x.look(48, what));
        }
    }

    private static void fiveHundredAndTwelve() {
        Calls.sentence("An object is used for at most 512 calls after it has been made;");
        GreatEstate x = new GreatEstate();
        for (int call = 1; call <= 511; call++) {
            Calls.due("call " + call, x.heir(), 0);
        }
        Calls.due("call 512", x.count(12), 511);
    }
}
