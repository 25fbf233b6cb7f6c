/** The sentences of part 3 that name an edge: spring, summer, autumn, winter, OUT; each has a test of its own. */
public final class EdgesOfSeasonsTest {
    public static void main(String[] args) {
        greatestHopeOfSeveralTheFirst();
        hopeWithoutRainAndGame();
        allBarred();
        barAfterTheCropThatItHas();
        othersHaveNoCrop();
        yieldsOfCrops();
        rainOfItsYear();
        fallowCountsNothingElse();
        wornWetAndSunk();
        lastYearOfAThing();
        zeroAtLeast();
        gameEats();
        wornWithinBounds();
        harvestCoin();
        rentLines();
        harmOfGame();
        harmByTheCropEaten();
        putOff();
        elseAllIsDue();
        asMuchAsItHas();
        cottageRent();
        gameOfWoods();
        gameBeside();
        ageOfWoods();
        drainAndLime();
        minesThatAreNotOver();
        everyHundredTons();
        turnsByNumbers();
        loansAndCharges();
        incomeBelowZero();
        leasesEnd();
        owedForThings();
        wasteZeroAtLeast();
        keptBack();
        fieldsOfNoneThen();
        Calls.finish();
    }

    /** A HAND of one field sown with a crop. */
    private static GreatEstate hand(int crop) {
        GreatEstate x = new GreatEstate();
        x.keep(0, 0, 2, 0, 0);
        x.sow(0, crop);
        return x;
    }

    private static GreatEstate pricedAtNothing(int years) {
        GreatEstate x = new GreatEstate();
        for (int year = 0; year < years; year++) {
            for (int crop = 1; crop <= 4; crop++) {
                x.price(crop, year, 0);
            }
        }
        return x;
    }

    /** An estate with so much income in the autumn's end of year 0. */
    private static GreatEstate rich() {
        GreatEstate x = new GreatEstate();
        x.keep(47, 47, 5, 1000, 0);
        x.keep(46, 46, 5, 1000, 0);
        x.seasons(3);
        return x;
    }

    private static void greatestHopeOfSeveralTheFirst() {
        Calls.sentence("and whose HOPE is the greatest, of several the first:");
        int[][] all = {{10, 10, 10, 10, 1}, {12, 13, 10, 10, 1}, {0, 0, 0, 0, 1}, {0, 0, 0, 1, 4}, {10, 11, 12, 13, 2}, {11, 12, 13, 15, 4},
            {0, 11, 12, 0, 2}, {0, 11, 13, 0, 3}, {0, 0, 10, 11, 3}, {30, 0, 0, 39, 1}, {30, 0, 0, 40, 4}, {10, 0, 0, 13, 1}};
        for (int[] n : all) {
            GreatEstate x = new GreatEstate();
            Calls.yearly(x, 0, 0, 0, "");
            for (int crop = 1; crop <= 4; crop++) {
                x.price(crop, 0, n[crop - 1]);
            }
            x.seasons(1);
            Calls.due("by " + n[0] + " " + n[1] + " " + n[2] + " " + n[3], x.look(0, 3), n[4]);
        }
    }

    private static void hopeWithoutRainAndGame() {
        Calls.sentence("HOPE: the KNOWN PRICE of this YEAR (fallow 0) times what it would YIELD with RAIN 0 and without GAME;");
        GreatEstate x = new GreatEstate();
        x.price(1, 0, 10);
        x.price(4, 0, 14);
        x.rain(0, -5, true);
        x.field(0, 5, 0, 0, 0, 0);
        x.field(1, 5, 0, 0, 99, 0);
        x.field(2, 5, 9, 20, 0, 0);
        Calls.yearly(x, 0, 2, 0, "");
        x.seasons(1);
        Calls.due("130 to 140: grass, though wheat would win with rain 5", x.look(0, 3), 4);
        Calls.due("the same with game", x.look(1, 3), 4);
        Calls.due("all yield nothing: the first", x.look(2, 3), 1);
        GreatEstate y = new GreatEstate();
        Calls.yearly(y, 0, 0, 0, "");
        y.seasons(1);
        y.price(4, 0, 100);
        y.seasons(3);
        Calls.due("what was told behind spring does not count", y.look(0, 3), 1);
        y.seasons(1);
        Calls.due("nor is it of the next year", y.look(0, 3), 1);
    }

    private static void allBarred() {
        Calls.sentence("with all barred it is 5.");
        String bars = "bar wheat after wheat;bar barley after wheat;bar turnips after wheat;bar grass after wheat";
        GreatEstate x = new GreatEstate();
        Calls.yearly(x, 0, 0, 0, bars + ";bar fallow after wheat");
        Calls.yearly(x, 1, 1, 0, bars);
        Calls.yearly(x, 2, 2, 0, bars.substring(0, bars.lastIndexOf(';')) + ";bar fallow after wheat");
        x.seasons(1);
        for (int field = 0; field < 3; field++) {
            Calls.due("wheat after none", x.look(field, 3), 1);
        }
        x.seasons(4);
        Calls.due("all barred", x.look(0, 3), 5);
        Calls.due("all but fallow", x.look(1, 3), 5);
        Calls.due("all but grass", x.look(2, 3), 4);
        x.seasons(4);
        Calls.due("none is barred after fallow", x.look(0, 3), 1);
    }

    private static void barAfterTheCropThatItHas() {
        Calls.sentence("that is not barred (some bar LINE of its LEASE: that CROP after the CROP that it has)");
        GreatEstate x = new GreatEstate();
        Calls.yearly(x, 0, 0, 0, "bar wheat after barley;bar wheat after wheat;bar barley after barley");
        Calls.yearly(x, 1, 1, 0, "");
        int[] crops = {1, 2, 3, 1, 2};
        for (int year = 0; year < 5; year++) {
            x.seasons(year == 0 ? 1 : 4);
            Calls.due("year " + year, x.look(0, 3), crops[year]);
            Calls.due("another lease, year " + year, x.look(1, 3), 1);
        }
    }

    private static void othersHaveNoCrop() {
        Calls.sentence("(FIELDS of HAND and WOOD keep what was SOWN; others have no CROP.)");
        GreatEstate x = new GreatEstate();
        x.keep(0, 0, 2, 0, 0);
        x.keep(1, 1, 3, 0, 0);
        x.keep(2, 2, 4, 0, 0);
        x.keep(3, 3, 5, 0, 0);
        x.sow(0, 4);
        x.sow(1, 5);
        x.seasons(9);
        int[] crops = {4, 5, 0, 0, 0};
        for (int field = 0; field < 5; field++) {
            Calls.due("crop of " + field, x.look(field, 3), crops[field]);
        }
    }

    private static void yieldsOfCrops() {
        Calls.sentence("YIELD of a FIELD with a CROP: of wheat 8, barley 7, turnips 6, grass 5 (fallow 0: nothing else counts), and SOIL, and RAIN, and 2 with LIME");
        int[] grows = {0, 8, 7, 6, 5, 0};
        for (int crop = 0; crop <= 5; crop++) {
            for (int rain = -5; rain <= 5; rain += 5) {
                GreatEstate x = rich();
                x.keep(0, 1, 2, 0, 0);
                x.sow(0, crop);
                x.sow(1, crop);
                x.field(0, 9, 0, 0, 0, 0);
                x.field(1, 0, 0, 0, 0, 0);
                x.work(1, true);
                x.rain(1, rain, true);
                x.seasons(3);
                boolean grown = crop > 0 && crop < 5;
                Calls.due("crop " + crop + ", rain " + rain, x.look(0, 9), grown ? grows[crop] + 9 + rain : 0);
                Calls.due("limed crop " + crop + ", rain " + rain, x.look(1, 9), grown ? grows[crop] + rain + 2 : 0);
            }
        }
    }

    private static void rainOfItsYear() {
        Calls.sentence("and RAIN, and 2 with LIME");
        GreatEstate x = hand(3);
        for (int year = 0; year < 11; year++) {
            x.rain(year, year - 5, true);
        }
        for (int year = 0; year < 11; year++) {
            x.seasons(year == 0 ? 2 : 4);
            Calls.due("by the rain of year " + year, x.look(0, 9), 11 + year - 5);
        }
    }

    private static void fallowCountsNothingElse() {
        Calls.sentence("(fallow 0: nothing else counts)");
        GreatEstate x = rich();
        x.keep(0, 0, 2, 0, 0);
        x.sow(0, 5);
        x.field(0, 9, 0, 10, 99, 0);
        x.work(0, true);
        x.rain(1, 5, true);
        int income = x.count(2);
        x.seasons(3);
        Calls.due("no yield", x.look(0, 9), 0);
        Calls.due("worn is 3 less", x.look(0, 2), 7);
        Calls.due("no coin", x.count(2), income);
    }

    private static void wornWetAndSunk() {
        Calls.sentence("less WORN by 2 (rounded down), less WET (a third of it, rounded down, with DRAIN), less 2 times SUNK");
        for (int worn = 0; worn <= 5; worn++) {
            GreatEstate x = hand(1);
            x.field(0, 5, 0, worn, 0, 0);
            x.seasons(2);
            Calls.due("worn " + worn, x.look(0, 9), 13 - worn / 2);
        }
        for (int wet = 0; wet <= 9; wet++) {
            GreatEstate x = rich();
            x.keep(0, 1, 2, 0, 0);
            x.sow(0, 1);
            x.sow(1, 1);
            x.field(0, 5, wet, 0, 0, 0);
            x.field(1, 5, wet, 0, 0, 0);
            x.work(1, false);
            x.seasons(3);
            Calls.due("wet " + wet, x.look(0, 9), 13 - wet);
            Calls.due("wet with drain " + wet, x.look(1, 9), 13 - wet / 3);
        }
        GreatEstate y = new GreatEstate();
        y.keep(0, 0, 4, 300, 0);
        y.seasons(4);
        y.give(0);
        y.keep(0, 0, 2, 0, 0);
        y.sow(0, 1);
        y.seasons(2);
        Calls.due("sunk by 3", y.look(0, 9), 13 - 6);
    }

    private static void lastYearOfAThing() {
        Calls.sentence("DRAIN and LIME: years that are left of them (0)");
        GreatEstate x = rich();
        x.keep(0, 1, 2, 0, 0);
        x.sow(0, 1);
        x.sow(1, 1);
        x.work(0, true);
        x.work(1, false);
        for (int year = 1; year <= 21; year++) {
            x.field(0, 5, 0, 0, 0, 0);
            x.field(1, 5, 9, 0, 0, 0);
            x.seasons(year == 1 ? 3 : 4);
            Calls.due("lime in year " + year + ": 5 summers", x.look(0, 9), year <= 5 ? 15 : 13);
            Calls.due("drain in year " + year + ": 19 summers", x.look(1, 9), year <= 19 ? 10 : 4);
            x.field(1, 5, 9, 0, 0, 0);
            Calls.due("worth by drain in year " + year, x.look(1, 12), year <= 19 ? 200 : 110);
        }
    }

    private static void zeroAtLeast() {
        Calls.sentence("less 2 times SUNK, 0 at least;");
        for (int wet = 0; wet <= 9; wet++) {
            GreatEstate x = hand(4);
            x.field(0, 0, wet, 3, 0, 0);
            x.rain(0, 1, true);
            x.seasons(2);
            Calls.due("5 and 1, less 1 and " + wet, x.look(0, 9), Math.max(0, 5 - wet));
            Calls.due("income", x.count(2), 10 * Math.max(0, 5 - wet));
        }
        GreatEstate y = hand(1);
        y.field(0, 0, 9, 20, 40, 0);
        y.rain(0, -5, true);
        y.seasons(2);
        Calls.due("far below", y.look(0, 9), 0);
        Calls.due("no coin", y.count(2), 0);
    }

    private static void gameEats() {
        Calls.sentence("then GAME eats of it: GAME by 4, rounded down, and not more than there is; what is left is its YIELD (0 without a CROP).");
        int[] games = {0, 3, 4, 7, 8, 51, 52, 55, 56, 99};
        for (int game : games) {
            GreatEstate x = hand(1);
            x.field(0, 5, 0, 0, game, 0);
            x.field(1, 5, 0, 0, game, 0);
            x.seasons(2);
            Calls.due("game " + game, x.look(0, 9), Math.max(0, 13 - game / 4));
            Calls.due("without a crop, game " + game, x.look(1, 9), 0);
            Calls.due("game stays", x.look(0, 6), game);
        }
        GreatEstate y = hand(1);
        y.seasons(2);
        Calls.due("a yield", y.look(0, 9), 13);
        y.give(0);
        y.sell(0, true);
        y.seasons(3);
        Calls.due("sold, ahead of the next summer", y.look(0, 9), 13);
        y.seasons(1);
        Calls.due("sold: without a crop", y.look(0, 9), 0);
    }

    private static void wornWithinBounds() {
        Calls.sentence("WORN then is 2 more by wheat, 1 by barley, 1 less by turnips, 2 less by grass, 3 less by fallow (0 to 20).");
        int[] change = {0, 2, 1, -1, -2, -3};
        for (int crop = 0; crop <= 5; crop++) {
            for (int worn : new int[] {0, 1, 2, 3, 10, 18, 19, 20}) {
                GreatEstate x = hand(crop);
                x.field(0, 5, 0, worn, 0, 0);
                x.seasons(1);
                Calls.due("not by spring", x.look(0, 2), worn);
                x.seasons(1);
                Calls.due("crop " + crop + " on worn " + worn, x.look(0, 2), Math.max(0, Math.min(20, worn + change[crop])));
                x.seasons(2);
                Calls.due("once a year", x.look(0, 2), Math.max(0, Math.min(20, worn + change[crop])));
            }
        }
    }

    private static void harvestCoin() {
        Calls.sentence("What it YIELDS times the PRICE of this YEAR is the TENANT's COIN (HAND, WOOD: INCOME).");
        GreatEstate x = hand(2);
        x.keep(1, 1, 3, 0, 0);
        x.sow(1, 3);
        Calls.yearly(x, 2, 3, 7, "");
        x.field(3, 0, 9, 20, 0, 0);
        x.seasons(1);
        x.price(1, 0, 100);
        x.price(2, 0, 0);
        x.price(3, 0, 9);
        x.seasons(1);
        Calls.due("a hand at nothing", x.led(0, 7), 0);
        Calls.due("a wood", x.led(1, 7), 99);
        Calls.due("income", x.count(2), 99);
        Calls.due("a tenant, one of its fields bare", x.led(2, 2), 7 + 1300);
        Calls.due("all harvests", x.count(15), 1399);
        x.seasons(2);
        Calls.due("not by autumn or winter", x.count(15), 1399);
    }

    private static void rentLines() {
        Calls.sentence("RENT: the sum of all rent LINES that hold, and of all corn LINES NUMBER times that PRICE;");
        GreatEstate x = new GreatEstate();
        Calls.yearly(x, 0, 0, 100000, "rent 1;rent 20 if 1<2;rent 300 if 2<1;corn 4 of wheat;corn 5 of wheat;corn 6 of fallow;corn 0 of barley");
        x.price(1, 0, 100);
        Calls.due("rent", x.rent(0), 21 + 900);
        x.seasons(3);
        Calls.due("paid", x.led(0, 7), 921);
        GreatEstate y = new GreatEstate();
        Calls.yearly(y, 0, 0, 100000, "");
        y.seasons(3);
        Calls.due("no line: nothing", y.led(0, 7), 0);
        Calls.due("no arrears", y.led(0, 3), 0);
    }

    private static void harmOfGame() {
        Calls.sentence("GAME's harm is taken off first (RENT not below 0): by the last game LINE so many hundredths of what GAME ate on its FIELDS this YEAR");
        int[] hundredths = {0, 1, 33, 50, 100};
        for (int n : hundredths) {
            GreatEstate x = new GreatEstate();
            x.field(0, 5, 0, 0, 4, 0);
            x.field(1, 5, 0, 0, 11, 0);
            x.field(2, 5, 0, 0, 99, 0);
            Calls.yearly(x, 0, 1, 1000, "rent 40;game 99;game " + n);
            x.seasons(3);
            Calls.due("3 times 10 by " + n, x.led(0, 7), 40 - 30 * n / 100);
        }
        for (int rent : new int[] {0, 29, 30, 31}) {
            GreatEstate x = new GreatEstate();
            x.field(0, 5, 0, 0, 12, 0);
            Calls.yearly(x, 0, 0, 1000, "game 100;rent " + rent);
            x.seasons(3);
            Calls.due("30 off " + rent, x.led(0, 7), Math.max(0, rent - 30));
            Calls.due("no arrears", x.led(0, 3), 0);
            Calls.due("coin", x.led(0, 2), 1100 - Math.max(0, rent - 30));
        }
        Calls.sentence("rounded down; nothing without)");
        GreatEstate y = new GreatEstate();
        y.field(0, 5, 0, 0, 99, 0);
        Calls.yearly(y, 0, 0, 1000, "rent 40");
        y.seasons(3);
        Calls.due("nothing off", y.led(0, 7), 40);
        GreatEstate z = new GreatEstate();
        z.field(0, 5, 0, 0, 4, 0);
        z.field(1, 5, 0, 0, 4, 0);
        for (int crop = 1; crop <= 4; crop++) {
            z.price(crop, 0, 9);
        }
        Calls.yearly(z, 0, 1, 1000, "rent 40;game 11;put 50 if 1<2");
        z.seasons(3);
        Calls.due("11 hundredths of 18, all together: 1", z.led(0, 7) + z.led(0, 4), 39);
        Calls.due("put off is taken of what is left", z.led(0, 4), 19);
    }

    private static void harmByTheCropEaten() {
        Calls.sentence("(by the PRICE of the CROP that it ate there, all together; rounded down; nothing without)");
        GreatEstate x = new GreatEstate();
        x.field(0, 5, 0, 0, 8, 0);
        x.keep(0, 0, 2, 0, 0);
        x.sow(0, 3);
        x.seasons(2);
        x.sow(0, 1);
        x.give(0);
        Calls.yearly(x, 0, 0, 1000, "rent 100;game 100");
        x.price(3, 0, 7);
        x.price(1, 0, 50);
        x.seasons(1);
        Calls.due("2 turnips at 7", x.led(1, 7), 86);
        x.field(0, 5, 0, 0, 0, 0);
        x.seasons(4);
        Calls.due("nothing in the next year", x.led(1, 7), 186);
        GreatEstate y = new GreatEstate();
        y.field(0, 0, 9, 20, 99, 0);
        Calls.yearly(y, 0, 0, 1000, "rent 100;game 100");
        y.seasons(3);
        Calls.due("where nothing grew nothing was eaten", y.led(0, 7), 100);
    }

    private static void putOff() {
        Calls.sentence("If some put LINE holds: the greatest NUMBER of those, in hundredths of RENT, rounded down, comes to what is PUT, and is not due;");
        int[][] all = {{0, 0}, {1, 1}, {33, 65}, {50, 99}, {99, 197}, {100, 199}};
        for (int[] n : all) {
            GreatEstate x = new GreatEstate();
            Calls.yearly(x, 0, 0, 1000, "rent 199;put 0 if 1<2;put " + n[0] + " if 1<2;put 0 if 1<2;put 100 if 2<1");
            x.seasons(3);
            Calls.due("put by " + n[0], x.led(0, 4), n[1]);
            Calls.due("paid by " + n[0], x.led(0, 7), 199 - n[1]);
            Calls.due("no arrears by " + n[0], x.led(0, 3), 0);
            x.seasons(4);
            Calls.due("it grows by " + n[0], x.led(0, 4), 2 * n[1]);
        }
        GreatEstate y = new GreatEstate();
        Calls.yearly(y, 0, 0, 1000, "put 50 if 1<2;rent 100");
        Calls.yearly(y, 1, 1, 1000, "rent 100;put 50 if 1<2");
        y.seasons(3);
        Calls.due("a put LINE that is the first", y.led(0, 4), 50);
        Calls.due("or the last", y.led(1, 4), 50);
    }

    private static void elseAllIsDue() {
        Calls.sentence("else RENT and all that is PUT is due, and nothing is PUT then.");
        GreatEstate x = new GreatEstate();
        Calls.yearly(x, 0, 0, 100, "rent 50;put 100 if year<2");
        x.seasons(7);
        Calls.due("two years are put", x.led(0, 4), 100);
        Calls.due("nothing paid", x.led(0, 7), 0);
        x.seasons(4);
        Calls.due("nothing is put then", x.led(0, 4), 0);
        Calls.due("all three are paid", x.led(0, 7), 150);
        GreatEstate y = pricedAtNothing(3);
        Calls.yearly(y, 0, 0, 60, "rent 50;put 100 if year<1;put 0 if year>0 and year<2");
        y.seasons(7);
        Calls.due("a put LINE of 0 holds: what is PUT stays", y.led(0, 4), 50);
        Calls.due("the rent is due", y.led(0, 7), 50);
        y.seasons(4);
        Calls.due("10 are paid", y.led(0, 7), 60);
        Calls.due("the rest are arrears", y.led(0, 3), 90);
    }

    private static void asMuchAsItHas() {
        Calls.sentence("ARREARS and what is due are owed: the TENANT pays of it as much as it has COIN; the rest are its ARREARS. What is paid is INCOME.");
        for (int coin : new int[] {0, 1, 49, 50, 51}) {
            GreatEstate x = pricedAtNothing(2);
            Calls.yearly(x, 0, 0, coin, "rent 50 if year<1");
            x.seasons(3);
            int paid = Math.min(coin, 50);
            Calls.due("paid of " + coin, x.led(0, 7), paid);
            Calls.due("coin", x.led(0, 2), coin - paid);
            Calls.due("arrears", x.led(0, 3), 50 - paid);
            Calls.due("income", x.count(2), paid);
            x.seasons(4);
            Calls.due("arrears stay owed", x.led(0, 3), 50 - paid);
        }
        GreatEstate y = pricedAtNothing(1);
        Calls.yearly(y, 0, 0, 0, "rent 50 if year<1;rent 5");
        y.seasons(3);
        Calls.due("arrears", y.led(0, 3), 55);
        y.seasons(4);
        Calls.due("110 of wheat pay arrears and rent", y.led(0, 7), 60);
        Calls.due("no arrears then", y.led(0, 3), 0);
        Calls.due("the rest is its coin", y.led(0, 2), 60);
    }

    private static void cottageRent() {
        Calls.sentence("A COTTAGE pays its RENT (INCOME).");
        GreatEstate x = new GreatEstate();
        x.keep(0, 1, 5, 1000, 0);
        x.keep(2, 2, 5, 0, 0);
        x.keep(3, 3, 5, 70, 0);
        x.give(2);
        x.seasons(3);
        Calls.due("once, not by field", x.led(0, 7), 1000);
        Calls.due("nothing", x.led(1, 7), 0);
        Calls.due("given up: nothing", x.led(2, 7), 0);
        Calls.due("income", x.count(2), 1000);
    }

    private static void gameOfWoods() {
        Calls.sentence("GAME of each FIELD of a WOOD is a half more, rounded up, 99 at most;");
        int[] games = {0, 1, 2, 3, 64, 65, 66, 67, 98, 99};
        for (int game : games) {
            GreatEstate x = new GreatEstate();
            x.field(0, 5, 0, 0, game, 0);
            x.field(1, 5, 0, 0, game, 0);
            x.keep(0, 1, 3, 0, 0);
            x.seasons(3);
            Calls.due("not ahead of winter", x.look(0, 6), game);
            x.seasons(1);
            Calls.due("game " + game, x.look(0, 6), Math.min(99, game + (game + 1) / 2));
            Calls.due("beside one of the same wood: no more", x.look(1, 6), Math.min(99, game + (game + 1) / 2));
        }
    }

    private static void gameBeside() {
        Calls.sentence("of each other FIELD beside one of these 1 more (once; 99 at most).");
        GreatEstate x = new GreatEstate();
        for (int field : new int[] {1, 8, 10, 17}) {
            x.keep(field, field, 3, 0, 0);
        }
        x.keep(2, 2, 2, 0, 0);
        Calls.yearly(x, 0, 0, 0, "");
        x.keep(18, 18, 4, 0, 0);
        x.field(16, 5, 0, 0, 99, 0);
        x.field(25, 5, 0, 0, 98, 0);
        x.seasons(4);
        Calls.due("beside four: once", x.look(9, 6), 1);
        Calls.due("one that is let", x.look(0, 6), 1);
        Calls.due("one in hand", x.look(2, 6), 1);
        Calls.due("a mine", x.look(18, 6), 1);
        Calls.due("99 stays", x.look(16, 6), 99);
        Calls.due("98 is 99", x.look(25, 6), 99);
        Calls.due("two steps away", x.look(3, 6), 0);
        Calls.due("across a corner alone", x.look(26, 6), 0);
        Calls.due("the wood itself", x.look(1, 6), 0);
        x.seasons(4);
        Calls.due("once each winter", x.look(9, 6), 2);
        Calls.due("99 at most", x.look(25, 6), 99);
    }

    private static void ageOfWoods() {
        Calls.sentence("AGE of each FIELD of a WOOD 1 more.");
        GreatEstate x = new GreatEstate();
        x.field(0, 5, 0, 0, 0, 300);
        x.field(1, 5, 0, 0, 0, 9);
        x.keep(0, 0, 3, 0, 0);
        x.keep(1, 1, 2, 0, 0);
        x.seasons(3);
        Calls.due("not ahead of winter", x.look(0, 7), 300);
        x.seasons(1);
        Calls.due("beyond 300", x.look(0, 7), 301);
        Calls.due("worth by it", x.look(0, 12), 200 + 301 * 301);
        Calls.due("not of a hand", x.look(1, 7), 9);
        x.give(0);
        x.seasons(4);
        Calls.due("not of one given up", x.look(0, 7), 301);
    }

    private static void drainAndLime() {
        Calls.sentence("DRAIN and LIME 1 less, if above 0.");
        GreatEstate x = rich();
        x.work(0, true);
        x.work(1, false);
        Calls.yearly(x, 1, 1, 0, "");
        for (int year = 0; year < 8; year++) {
            Calls.due("lime", x.look(0, 5), Math.max(0, 6 - year));
            Calls.due("no drain there", x.look(0, 4), 0);
            Calls.due("drain", x.look(1, 4), 20 - year);
            Calls.due("no lime there", x.look(1, 5), 0);
            x.seasons(4);
        }
    }

    private static void minesThatAreNotOver() {
        Calls.sentence("MINES that are not over, by numbers: as many TONS as one digs come up: ROYALTY for each is of THING mine (CAPITAL and INCOME by PART);");
        GreatEstate x = new GreatEstate();
        Calls.words(x, 0, "part mine 50");
        x.keep(0, 0, 4, 3, 5);
        x.keep(1, 1, 4, 3, 5);
        x.keep(2, 2, 4, 2000, 0);
        x.keep(3, 3, 4, 0, 100);
        x.give(1);
        x.seasons(3);
        Calls.due("not ahead of winter", x.led(0, 8), 0);
        x.seasons(1);
        Calls.due("tons", x.led(0, 8), 3);
        Calls.due("royalty", x.led(0, 7), 15);
        Calls.due("over: no tons", x.led(1, 8), 0);
        Calls.due("over: no royalty", x.led(1, 7), 0);
        Calls.due("without royalty", x.led(2, 7), 0);
        Calls.due("without tons", x.led(3, 7), 0);
        Calls.due("capital, rounded down", x.count(3), 7);
        Calls.due("income", x.count(2), 8);
        GreatEstate y = new GreatEstate();
        Calls.words(y, 0, "part mine 50");
        y.keep(0, 0, 4, 1, 1);
        y.keep(1, 1, 4, 1, 1);
        y.seasons(4);
        Calls.due("each mine by itself, rounded down", y.count(3), 0);
        Calls.due("all income", y.count(2), 2);
    }

    private static void everyHundredTons() {
        Calls.sentence("each time that its TONS in all pass 100 more, one of its FIELDS is SUNK by 1 more (9 at most)");
        int[][] all = {{99, 0, 1, 2}, {100, 1, 2, 3}, {101, 1, 2, 3}, {50, 0, 1, 1}, {199, 1, 3, 5}, {350, 3, 7, 9}, {2000, 9, 9, 9}, {0, 0, 0, 0}};
        for (int[] n : all) {
            GreatEstate x = new GreatEstate();
            x.keep(0, 0, 4, n[0], 0);
            for (int year = 1; year <= 3; year++) {
                x.seasons(4);
                Calls.due("by " + n[0] + " tons in year " + year, x.look(0, 8), n[year]);
            }
        }
    }

    private static void turnsByNumbers() {
        Calls.sentence("by turns, by their numbers.");
        GreatEstate x = new GreatEstate();
        x.keep(10, 1, 4, 300, 0);
        int[] at = {1, 2, 9, 10};
        for (int year = 1; year <= 13; year++) {
            x.seasons(4);
            for (int i = 0; i < 4; i++) {
                Calls.due("field " + at[i] + " in year " + year, x.look(at[i], 8), Math.min(9, (3 * year + 3 - i) / 4));
            }
        }
        GreatEstate y = new GreatEstate();
        y.keep(0, 0, 4, 900, 0);
        y.seasons(4);
        y.give(0);
        y.keep(0, 1, 4, 100, 0);
        y.seasons(4);
        Calls.due("one at 9 stays, its turn is used up", y.look(0, 8) * 10 + y.look(1, 8), 90);
        y.seasons(4);
        Calls.due("then the other's", y.look(0, 8) * 10 + y.look(1, 8), 91);
        y.seasons(4);
        Calls.due("and its own again", y.look(0, 8) * 10 + y.look(1, 8), 91);
    }

    private static void loansAndCharges() {
        Calls.sentence("LOANS, by numbers: PART and interest are paid of INCOME (see 4). CHARGES are paid of INCOME.");
        GreatEstate x = new GreatEstate();
        Calls.words(x, 0, "charge 7;charge 100 if coin<0;charge 1000 if coin>0");
        x.keep(0, 0, 5, 9, 0);
        x.loan(10, 1000, 5, true);
        x.loan(3, 0, 1, true);
        x.seasons(3);
        Calls.due("by the income of autumn", x.may(4, 0), 1007);
        x.seasons(1);
        Calls.due("loans first: 9 less 3 and 3 is above 0", x.count(16), 1007);
        Calls.due("income", x.count(2), 9 - 3 - 3 - 1007);
        Calls.due("owed", x.count(11), 8);
        GreatEstate y = new GreatEstate();
        Calls.words(y, 0, "charge 7;charge 100 if coin<0;charge 1000 if coin>0");
        y.keep(0, 0, 5, 6, 0);
        y.loan(6, 0, 1, true);
        y.seasons(4);
        Calls.due("loans first: it is 0 then", y.count(16), 7);
        Calls.due("capital pays nothing", y.count(3), 6);
        GreatEstate z = new GreatEstate();
        Calls.words(z, 0, "charge 5 if coin>0");
        z.keep(0, 0, 4, 1, 1);
        z.seasons(4);
        Calls.due("mines come ahead of charges", z.count(16), 5);
    }

    private static void incomeBelowZero() {
        Calls.sentence("INCOME may be below 0 so.");
        GreatEstate x = new GreatEstate();
        Calls.words(x, 0, "charge 3");
        x.seasons(4);
        Calls.due("by charges", x.count(2), -3);
        x.loan(5, 0, 1, true);
        x.seasons(4);
        Calls.due("by loans", x.count(2), -11);
        x.seasons(3);
        x.keep(1, 1, 5, 30, 0);
        x.seasons(4);
        Calls.due("it grows from there", x.count(2), -14 + 30);
    }

    private static void leasesEnd() {
        Calls.sentence("Then FARMS whose LEASE is over by this YEAR's end, and YEARLY ones under NOTICE, end: OUT.");
        GreatEstate x = new GreatEstate();
        Calls.farm(x, 0, 0, 1, 0, "");
        Calls.farm(x, 1, 1, 2, 0, "");
        Calls.yearly(x, 2, 2, 0, "");
        Calls.yearly(x, 3, 3, 0, "");
        x.notice(3);
        x.seasons(3);
        Calls.due("all go on in winter", x.count(5), 4);
        x.seasons(1);
        int[] over = {1, 0, 0, 1};
        for (int holding = 0; holding < 4; holding++) {
            Calls.due("over " + holding, x.led(holding, 6), over[holding]);
        }
        x.seasons(4);
        Calls.due("the next year", x.led(1, 6), 1);
        Calls.due("without notice", x.led(2, 6), 0);
        Calls.words(x, 8, "charge 1 if coin<0");
        Calls.farm(x, 0, 0, 1, 0, "owe lime 5");
        x.keep(20, 20, 5, 10, 0);
        x.seasons(3);
        x.work(0, true);
        Calls.due("income ahead", x.count(2), 2);
        x.seasons(1);
        Calls.due("charges go ahead of what is paid at OUT", x.count(16), 0);
        Calls.due("25 are paid", x.count(2), 2 - 25);
    }

    private static void owedForThings() {
        Calls.sentence("OUT: the TENANT is owed, for each owe LINE of its LEASE, NUMBER times the years that are left of that THING (DRAIN, LIME) on all its FIELDS");
        GreatEstate x = rich();
        Calls.yearly(x, 0, 1, 0, "owe drain 1;owe drain 10;owe lime 100;owe lime 0");
        Calls.due("nothing is there", x.owed(2), 0);
        x.work(0, false);
        x.work(1, false);
        x.work(1, true);
        x.work(2, true);
        Calls.due("owed", x.owed(2), 11 * 40 + 100 * 6);
        int income = x.count(2);
        x.notice(2);
        x.seasons(1);
        Calls.due("a winter less, then paid", x.led(2, 9), 11 * 38 + 100 * 5);
        Calls.due("of income", x.count(2), income - 11 * 38 - 500);
        Calls.due("its coin stays", x.led(2, 2), 0);
        Calls.due("it is not what it paid", x.led(2, 7), 0);
        Calls.due("the things stay", x.look(1, 4), 19);
        income = x.count(2);
        x.seasons(4);
        Calls.due("it goes out once", x.led(2, 9), 11 * 38 + 100 * 5);
        Calls.due("nothing more is paid", x.count(2), income + 2000);
    }

    private static void wasteZeroAtLeast() {
        Calls.sentence("less all waste LINES: for each of its FIELDS those that hold, together; 0 at least;");
        for (int waste : new int[] {0, 59, 60, 61, 999999}) {
            GreatEstate x = rich();
            x.work(0, true);
            Calls.yearly(x, 0, 1, 0, "owe lime 20;waste " + waste + ";waste 5 if worn>0;waste 999999 if 2<1");
            x.field(1, 5, 0, 1, 0, 0);
            int due = Math.max(0, 120 - 2 * waste - 5);
            Calls.due("waste " + waste, x.owed(2), due);
            x.notice(2);
            int income = x.count(2);
            x.seasons(1);
            due = Math.max(0, 100 - 2 * waste - 5);
            Calls.due("paid by waste " + waste, x.led(2, 9), due);
            Calls.due("of income", x.count(2), income - due);
        }
    }

    private static void keptBack() {
        Calls.sentence("of that ARREARS and what is PUT are kept back first; what is left is paid of INCOME. ARREARS and PUT are 0 then;");
        for (int rent : new int[] {0, 1, 99, 100, 101, 5000}) {
            GreatEstate x = pricedAtNothing(1);
            x.keep(47, 47, 5, 1000, 0);
            Calls.yearly(x, 0, 0, 0, "owe lime 20;put 50 if year<1;rent " + rent);
            x.notice(1);
            x.seasons(3);
            Calls.due("arrears and put", x.led(1, 3) + x.led(1, 4), rent);
            x.work(0, true);
            int income = x.count(2);
            x.seasons(1);
            int paid = Math.max(0, 100 - rent);
            Calls.due("paid behind " + rent, x.led(1, 9), paid);
            Calls.due("of income", x.count(2), income - paid);
            Calls.due("no arrears", x.led(1, 3), 0);
            Calls.due("nothing put", x.led(1, 4), 0);
            Calls.due("all arrears", x.count(6), 0);
            Calls.due("all put", x.count(7), 0);
            Calls.due("what is kept back it did not pay", x.led(1, 7), 0);
            x.seasons(8);
            Calls.due("no rent any more", x.led(1, 3) + x.led(1, 4) + x.led(1, 7), 0);
        }
    }

    private static void fieldsOfNoneThen() {
        Calls.sentence("its FIELDS are of none, their CROPS 0.");
        GreatEstate x = new GreatEstate();
        Calls.farm(x, 0, 9, 1, 0, "");
        Calls.yearly(x, 2, 2, 0, "");
        x.seasons(3);
        for (int field : new int[] {0, 1, 8, 9}) {
            Calls.due("crop ahead", x.look(field, 3), 1);
        }
        x.seasons(1);
        for (int field : new int[] {0, 1, 8, 9}) {
            Calls.due("of none", x.look(field, 10), -1);
            Calls.due("no crop", x.look(field, 3), 0);
        }
        Calls.due("no fields", x.led(0, 1), 0);
        Calls.due("another one stays", x.look(2, 3), 1);
        Calls.due("let anew", Calls.yearly(x, 0, 9, 0, ""), 2);
    }
}
