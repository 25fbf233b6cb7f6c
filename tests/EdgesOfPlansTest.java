/** The sentences of part 5 and of ROWS that name an edge, and those of promises 31 to 38; each has a test of its own. */
public final class EdgesOfPlansTest {
    private static final int LOST = -1000000000;

    public static void main(String[] args) {
        nothingChanges();
        sixWorks();
        costsOnceAndBringsBehind();
        fourTroubles();
        neverBelowZero();
        incomeFirst();
        worthIsTheLeast();
        bitsOfOthers();
        withoutTroubles();
        worthRefuses();
        bestOfAll();
        bestRefuses();
        eightFields();
        notSoldAndMayBeSold();
        worthTogether();
        fewestPairs();
        soldOnesPartNothing();
        leastWorthThenLeastBits();
        noneToSell();
        toSellRefuses();
        latestFourSummers();
        rowRefuses();
        tearing();
        checkingFirst();
        checkingByWhatWasThere();
        Calls.finish();
    }

    private static void nothingChanges() {
        Calls.sentence("PLANS (nothing changes by them).");
        GreatEstate x = new GreatEstate();
        Calls.words(x, 0, "sell");
        x.job(100, 10, 0);
        x.trouble(5, 5);
        x.worth(1000, 0, 1);
        x.best(1000, 0);
        x.toSell(0, 8, 300);
        int[] due = {0, 0, 0, 0, 0, 0, 0, 0, 1, 1, 0, 0, 0, 0, 0, 0, 0, 0, 0};
        for (int what = 0; what < due.length; what++) {
            Calls.due("count " + what, x.count(what), due[what]);
        }
        Calls.due("the same again", x.worth(1000, 0, 1), x.worth(1000, 0, 1));
    }

    private static void sixWorks() {
        Calls.sentence("A WORK of a plan: how many there are; NONE, and it does not come, if there are 6. IllegalArgumentException: a number is none.");
        GreatEstate x = new GreatEstate();
        for (int i = 1; i <= 6; i++) {
            Calls.due("job", x.job(0, 1, 0), i);
        }
        Calls.due("a 7th", x.job(0, 10000, 0), -1);
        Calls.due("did not come", x.worth(0, 0, -1), 6 * 29);
        Calls.due("an 8th", x.job(0, 10000, 0), -1);
        Calls.dueNumber("a wrong 7th", () -> x.job(-1, 0, 0));
        Calls.sentence("each costs (0 to 100000) once in a YEAR (0 to 29) and brings (0 to 10000) each YEAR behind it.");
        GreatEstate y = new GreatEstate();
        int[][] none = {{-1, 0, 0}, {100001, 0, 0}, {0, -1, 0}, {0, 10001, 0}, {0, 0, -1}, {0, 0, 30}, {Integer.MIN_VALUE, 0, 0},
            {Integer.MAX_VALUE, 0, 0}, {0, Integer.MAX_VALUE, 0}, {0, 0, Integer.MIN_VALUE}};
        for (int[] n : none) {
            Calls.dueNumber("job " + n[0] + " " + n[1] + " " + n[2], () -> y.job(n[0], n[1], n[2]));
        }
        Calls.due("the least", y.job(0, 0, 0), 1);
        Calls.due("the most", y.job(100000, 10000, 29), 2);
    }

    private static void costsOnceAndBringsBehind() {
        Calls.sentence("once in a YEAR (0 to 29) and brings (0 to 10000) each YEAR behind it.");
        for (int year : new int[] {0, 1, 15, 28, 29}) {
            GreatEstate x = new GreatEstate();
            x.job(100, 7, year);
            Calls.due("in year " + year, x.worth(1000, 0, 1), 900 + 7 * (29 - year));
        }
    }

    private static void fourTroubles() {
        Calls.sentence("A TROUBLE: how many there are; NONE, and it does not come, if there are 4. IllegalArgumentException: a number is none.");
        GreatEstate x = new GreatEstate();
        for (int i = 1; i <= 4; i++) {
            Calls.due("trouble", x.trouble(i, 0), i);
        }
        Calls.due("a 5th", x.trouble(-100000, -1000), -1);
        Calls.due("did not come", x.worth(0, 0, 0), 30);
        Calls.dueNumber("a wrong 5th", () -> x.trouble(0, 1001));
        Calls.sentence("a change each YEAR (- 1000 to 1000 each; the first - 100000 to 100000).");
        GreatEstate y = new GreatEstate();
        int[][] none = {{-100001, 0}, {100001, 0}, {0, -1001}, {0, 1001}, {Integer.MIN_VALUE, 0}, {Integer.MAX_VALUE, 0},
            {0, Integer.MIN_VALUE}, {0, Integer.MAX_VALUE}};
        for (int[] n : none) {
            Calls.dueNumber("trouble " + n[0] + " " + n[1], () -> y.trouble(n[0], n[1]));
        }
        Calls.due("the most", y.trouble(100000, 1000), 1);
        Calls.due("worth of it", y.worth(1000000, 0, 0), 1000000 + 30 * 100000 + 435 * 1000);
        Calls.due("the least", y.trouble(-100000, -1000), 2);
        Calls.due("worth of both", y.worth(1000000, 0, 0), LOST);
        GreatEstate z = new GreatEstate();
        z.trouble(10, -2);
        Calls.due("the first, then a change each year", z.worth(1000, 0, 0), 1000 + 300 - 870);
    }

    private static void neverBelowZero() {
        Calls.sentence("a set of WORKS LASTS through a TROUBLE, if coin is never below 0: in each of 30 YEARS:");
        GreatEstate x = new GreatEstate();
        x.trouble(-1, 0);
        Calls.due("just 0 in the last year", x.worth(30, 0, 0), 0);
        Calls.due("below 0 in the last year", x.worth(29, 0, 0), LOST);
        GreatEstate y = new GreatEstate();
        y.trouble(-10, 1000);
        Calls.due("just 0 in the first year", y.worth(10, 0, 0), 10 - 300 + 435000);
        Calls.due("below 0 in the first year", y.worth(9, 0, 0), LOST);
        GreatEstate z = new GreatEstate();
        z.job(50, 100, 15);
        Calls.due("just 0 in year 15", z.worth(50, 0, 1), 1400);
        Calls.due("below 0 in year 15", z.worth(49, 0, 1), LOST);
    }

    private static void incomeFirst() {
        Calls.sentence("the TROUBLE's income and what WORKS bring come, then CHARGE and costs go.");
        GreatEstate x = new GreatEstate();
        x.trouble(5, 0);
        Calls.due("a charge by the income of its year", x.worth(0, 5, 0), 0);
        Calls.due("one more", x.worth(0, 6, 0), LOST);
        x.job(5, 0, 0);
        Calls.due("costs by the income of their year", x.worth(0, 0, 1), 145);
        Calls.due("with a charge: not", x.worth(0, 1, 1), LOST);
        GreatEstate y = new GreatEstate();
        y.job(0, 50, 3);
        y.job(50, 0, 4);
        Calls.due("costs by what another brings in their year", y.worth(0, 0, 3), 50 * 26 - 50);
        GreatEstate z = new GreatEstate();
        z.job(0, 50, 4);
        z.job(50, 0, 4);
        Calls.due("it brings nothing in its own year", z.worth(0, 0, 3), LOST);
    }

    private static void worthIsTheLeast() {
        Calls.sentence("WORTH: the least coin at the end of all TROUBLES (of all through which it must last: all).");
        GreatEstate x = new GreatEstate();
        x.trouble(3, 0);
        x.trouble(1, 0);
        x.trouble(2, 0);
        Calls.due("the least", x.worth(0, 0, 0), 30);
        x.trouble(-1, 1);
        Calls.due("not through one", x.worth(0, 0, 0), LOST);
        Calls.due("through it with a coin: 1 less 30 and 435, and 31, 91, 61", x.worth(1, 0, 0), 31);
        Calls.due("the charge goes in each: 91, 31, 61 and 406 less 30", x.worth(31, 1, 0), 31);
    }

    private static void bitsOfOthers() {
        Calls.sentence("WORTH of a set of WORKS (bits of others count for nothing);");
        GreatEstate x = new GreatEstate();
        Calls.due("no works", x.worth(7, 0, -1), 7);
        x.job(0, 1, 28);
        x.job(0, 2, 28);
        for (int set = 0; set < 4; set++) {
            Calls.due("set " + set, x.worth(7, 0, set), 7 + set);
            Calls.due("set with others " + set, x.worth(7, 0, set | 0xFFFFFFFC), 7 + set);
            Calls.due("set with the next " + set, x.worth(7, 0, set | 4), 7 + set);
        }
        Calls.due("the highest bit alone", x.worth(7, 0, Integer.MIN_VALUE), 7);
        Calls.sentence("- 1000000000 if it does not last through all.");
        Calls.due("it does not", x.worth(0, 1, 0), LOST);
    }

    private static void withoutTroubles() {
        Calls.sentence("Without TROUBLES it is as by one of 0 and 0.");
        GreatEstate x = new GreatEstate();
        x.job(30, 2, 1);
        int without = x.worth(100, 1, 1);
        Calls.due("without", without, 100 - 30 - 30 + 56);
        Calls.due("best without", x.best(100, 1), 1);
        x.trouble(0, 0);
        Calls.due("by one of 0 and 0", x.worth(100, 1, 1), without);
        Calls.due("best by it", x.best(100, 1), 1);
    }

    private static void worthRefuses() {
        Calls.sentence("IllegalArgumentException: coin (0 to 1000000) or CHARGE are none.");
        GreatEstate x = new GreatEstate();
        Calls.due("the least", x.worth(0, 0, 0), 0);
        Calls.due("the most coin", x.worth(1000000, 0, 0), 1000000);
        Calls.due("the most charge", x.worth(1000000, 100000, 0), LOST);
        for (int coin : new int[] {-1, 1000001, Integer.MIN_VALUE, Integer.MAX_VALUE}) {
            Calls.dueNumber("coin " + coin, () -> x.worth(coin, 0, 0));
        }
        for (int charge : new int[] {-1, 100001, Integer.MIN_VALUE, Integer.MAX_VALUE}) {
            Calls.dueNumber("charge " + charge, () -> x.worth(0, charge, 0));
        }
    }

    private static void bestOfAll() {
        Calls.sentence("BEST: the set that lasts through all, of the greatest WORTH, of several the fewest WORKS, then the least bits; none.");
        GreatEstate x = new GreatEstate();
        Calls.due("no works: the empty set", x.best(0, 0), 0);
        Calls.due("none lasts", x.best(29, 1), -1);
        Calls.due("it just lasts", x.best(30, 1), 0);
        x.job(29, 1, 0);
        Calls.due("one that brings just what it costs: the fewest", x.best(100, 0), 0);
        GreatEstate y = new GreatEstate();
        y.job(10, 2, 0);
        y.job(10, 2, 0);
        y.job(20, 4, 0);
        Calls.due("all", y.best(40, 0), 7);
        Calls.due("the fewest of two sets of one worth", y.best(20, 0), 4);
        Calls.due("the least bits of 5 and 6", y.best(30, 0), 5);
        Calls.due("the least bits of 1 and 2", y.best(10, 0), 1);
        Calls.due("none can be paid", y.best(9, 0), 0);
        GreatEstate z = new GreatEstate();
        z.job(100, 10, 0);
        z.trouble(-5, 0);
        z.trouble(0, -1);
        Calls.due("through both by it", z.best(300, 0), 1);
        Calls.due("not through one without it", z.worth(300, 0, 0), LOST);
        z.trouble(-500, 0);
        Calls.due("none through the third", z.best(300, 0), -1);
        GreatEstate w = new GreatEstate();
        for (int i = 0; i < 6; i++) {
            w.job(0, i == 5 ? 0 : 1, 0);
        }
        Calls.due("five of six", w.best(0, 0), 31);
    }

    private static void bestRefuses() {
        Calls.sentence("BEST; NONE. IllegalArgumentException likewise.");
        GreatEstate x = new GreatEstate();
        Calls.due("the most coin", x.best(1000000, 0), 0);
        Calls.due("the most charge", x.best(1000000, 100000), -1);
        for (int coin : new int[] {-1, 1000001, Integer.MIN_VALUE, Integer.MAX_VALUE}) {
            Calls.dueNumber("coin " + coin, () -> x.best(coin, 0));
        }
        for (int charge : new int[] {-1, 100001, Integer.MIN_VALUE, Integer.MAX_VALUE}) {
            Calls.dueNumber("charge " + charge, () -> x.best(0, charge));
        }
    }

    private static GreatEstate salable() {
        GreatEstate x = new GreatEstate();
        Calls.words(x, 0, "sell if soil<9");
        return x;
    }

    private static void eightFields() {
        Calls.sentence("of FIELDS from one on, n of them by numbers: the set as bits (bit 0 the first); NONE.");
        GreatEstate x = salable();
        Calls.due("one", x.toSell(47, 1, 200), 1);
        Calls.due("eight", x.toSell(40, 8, 1600), 255);
        Calls.due("eight over the end of a row", x.toSell(4, 8, 1600), 255);
        x.field(10, 5, 0, 0, 0, 40);
        Calls.due("the last of eight", x.toSell(3, 8, 1700), 128);
        Calls.due("the first of eight", x.toSell(10, 8, 1700), 1);
        Calls.due("not among the eight", x.toSell(11, 8, 1700), -1);
    }

    private static void notSoldAndMayBeSold() {
        Calls.sentence("of at most 8 FIELDS those that are not SOLD and MAY be sold (whosever they are)");
        GreatEstate x = salable();
        Calls.due("free", x.toSell(0, 1, 1), 1);
        Calls.yearly(x, 0, 0, 0, "");
        Calls.due("let", x.toSell(0, 1, 1), 1);
        x.keep(1, 1, 3, 0, 0);
        Calls.due("a wood", x.toSell(1, 1, 1), 1);
        x.sell(2, false);
        Calls.due("sold", x.toSell(2, 1, 1), -1);
        x.field(3, 9, 0, 0, 0, 0);
        Calls.due("may not be sold", x.toSell(3, 1, 1), -1);
        Calls.due("those alone that may", x.toSell(2, 3, 1), 4);
        Calls.due("not enough by those", x.toSell(2, 3, 201), -1);
        Calls.due("not enough without a sold one behind", x.toSell(1, 2, 201), -1);
    }

    private static void worthTogether() {
        Calls.sentence("some whose WORTH together is at least so much:");
        GreatEstate x = salable();
        Calls.due("nothing is asked: the empty set", x.toSell(0, 8, 0), 0);
        Calls.due("just so much", x.toSell(0, 2, 400), 3);
        Calls.due("one coin more", x.toSell(0, 2, 401), -1);
        Calls.due("one coin less takes both still", x.toSell(0, 2, 201), 3);
        Calls.due("one is enough", x.toSell(0, 2, 200), 1);
        x.field(0, 8, 0, 0, 0, 300);
        Calls.due("the most", x.toSell(0, 8, 90260), 1);
        Calls.due("beyond it", x.toSell(0, 1, 90261), -1);
        Calls.due("with one more beside it", x.toSell(0, 8, 90261), 3);
    }

    private static void fewestPairs() {
        Calls.sentence("the set by which the fewest pairs of FIELDS beside one another (neither SOLD now) are parted (one sold, the other not)");
        GreatEstate x = salable();
        Calls.due("a corner parts 2, others of its row 3", x.toSell(0, 8, 150), 1);
        Calls.due("the other corner", x.toSell(1, 7, 150), 64);
        Calls.due("four from the corner part 5", x.toSell(0, 8, 800), 15);
        Calls.due("of the second row the edges part 3", x.toSell(8, 8, 150), 1);
        Calls.due("two corners by the row's end", x.toSell(7, 2, 400), 3);
        Calls.due("those within part 4", x.toSell(9, 6, 150), 1);
        x.field(8, 4, 0, 0, 0, 0);
        Calls.due("one above counts: 2 by 7, 3 by 8", x.toSell(7, 2, 150), 1);
        x.field(8, 5, 0, 0, 0, 0);
        Calls.due("two beside one another part 6, not 8", x.toSell(9, 6, 400), 3);
    }

    private static void soldOnesPartNothing() {
        Calls.sentence("(neither SOLD now)");
        GreatEstate x = salable();
        x.sell(12, false);
        Calls.due("beside a sold one: 3 pairs", x.toSell(8, 8, 150), 1);
        x.sell(21, false);
        Calls.due("beside one that lost more: 13 parts 14 and 5", x.toSell(9, 6, 150), 16);
        x.sell(14, false);
        x.sell(5, false);
        Calls.due("one alone parts nothing", x.toSell(8, 8, 150), 32);
    }

    private static void leastWorthThenLeastBits() {
        Calls.sentence("of several the least WORTH, then the least bits; none.");
        GreatEstate x = salable();
        x.field(7, 4, 0, 0, 0, 0);
        Calls.due("both corners part 2: the lesser worth", x.toSell(0, 8, 100), 128);
        x.field(0, 4, 0, 0, 0, 0);
        Calls.due("of the same worth the least bits", x.toSell(0, 8, 100), 1);
        Calls.due("a corner is not enough: of those that part 3 the least worth", x.toSell(0, 8, 181), 2);
        Calls.due("fewer pairs go ahead of less worth", x.toSell(1, 7, 1), 64);
        x.field(4, 0, 9, 20, 0, 0);
        Calls.due("a worth of 10 within the row does not win", x.toSell(0, 8, 10), 1);
    }

    private static void noneToSell() {
        Calls.sentence("the set as bits (bit 0 the first); NONE.");
        GreatEstate x = new GreatEstate();
        Calls.due("without words", x.toSell(0, 8, 1), -1);
        Calls.due("without words, nothing asked", x.toSell(0, 8, 0), 0);
        Calls.words(x, 0, "sell");
        Calls.due("all are not enough", x.toSell(0, 8, 1601), -1);
        Calls.due("all are just enough", x.toSell(0, 8, 1600), 255);
        Calls.due("the most that can be asked", x.toSell(0, 8, 100000), -1);
    }

    private static void toSellRefuses() {
        Calls.sentence("IllegalArgumentException: n is not 1 to 8, there are not so many, or the coin is not 0 to 100000.");
        GreatEstate x = salable();
        for (int n : new int[] {0, 9, -1, Integer.MIN_VALUE, Integer.MAX_VALUE}) {
            Calls.dueNumber("n " + n, () -> x.toSell(0, n, 0));
            Calls.dueNumber("n " + n + " at the end", () -> x.toSell(47, n, 0));
            Calls.dueIndex("n " + n + " of no field", () -> x.toSell(48, n, 0));
        }
        for (int n = 1; n <= 8; n++) {
            int m = n;
            Calls.due("just so many", x.toSell(48 - m, m, 0), 0);
            if (n > 1) {
                Calls.dueNumber("one fewer than so many", () -> x.toSell(49 - m, m, 0));
            }
        }
        for (int coin : new int[] {-1, 100001, Integer.MIN_VALUE, Integer.MAX_VALUE}) {
            Calls.dueNumber("coin " + coin, () -> x.toSell(0, 1, coin));
        }
        Calls.due("the most coin", x.toSell(0, 1, 100000), -1);
        for (int field : new int[] {-1, 48, Integer.MIN_VALUE, Integer.MAX_VALUE}) {
            Calls.dueIndex("from " + field, () -> x.toSell(field, 1, 0));
        }
    }

    private static void latestFourSummers() {
        Calls.sentence("ROWS: YIELDS of all FIELDS of the latest 4 summers (as many as there were).");
        GreatEstate x = new GreatEstate();
        x.keep(47, 47, 2, 0, 0);
        x.sow(47, 1);
        Calls.due("none at first", x.count(17), 0);
        x.seasons(1);
        Calls.due("none by spring", x.count(17), 0);
        x.seasons(1);
        for (int year = 0; year < 7; year++) {
            int rows = Math.min(4, year + 1);
            Calls.due("rows by year " + year, x.count(17), rows);
            Calls.due("check by year " + year, x.check(), -1);
            for (int i = 0; i < rows; i++) {
                Calls.due("row " + i + " by year " + year, x.row(i, 47), 13 - (year - rows + 1 + i));
                Calls.due("of the first field", x.row(i, 0), 0);
            }
            x.seasons(4);
        }
    }

    private static void rowRefuses() {
        Calls.sentence("The number of a FIELD in ROW i (from 0, the oldest, on). NoSuchElementException: there is none such.");
        GreatEstate x = new GreatEstate();
        Calls.dueNoSuch("none at first", () -> x.row(0, 0));
        for (int year = 1; year <= 5; year++) {
            x.seasons(4);
            int rows = Math.min(4, year);
            Calls.due("the last", x.row(rows - 1, 47), 0);
            Calls.dueNoSuch("behind it", () -> x.row(rows, 47));
            Calls.dueNoSuch("ahead of the first", () -> x.row(-1, 47));
        }
        for (int i : new int[] {-1, 4, Integer.MIN_VALUE, Integer.MAX_VALUE}) {
            Calls.dueNoSuch("row " + i, () -> x.row(i, 0));
            Calls.dueIndex("row " + i + " of no field", () -> x.row(i, 48));
        }
        Calls.dueIndex("field -1", () -> x.row(0, -1));
    }

    private static void tearing() {
        Calls.sentence("A number is TORN: what it is then. NoSuchElementException likewise.");
        GreatEstate x = new GreatEstate();
        Calls.dueNoSuch("none at first", () -> x.tear(0, 0, 1));
        x.seasons(2);
        for (int mask : new int[] {0, 1, -1, Integer.MIN_VALUE, Integer.MAX_VALUE}) {
            Calls.due("torn by " + mask, x.tear(0, 47, mask), mask);
            Calls.due("it is so", x.row(0, 47), mask);
            Calls.due("check", x.check(), mask == 0 ? -1 : 47);
            Calls.due("torn back", x.tear(0, 47, mask), 0);
            Calls.due("none then", x.check(), -1);
        }
        for (int i : new int[] {-1, 1, 4, Integer.MIN_VALUE, Integer.MAX_VALUE}) {
            Calls.dueNoSuch("row " + i, () -> x.tear(i, 0, 1));
            Calls.dueIndex("row " + i + " of no field", () -> x.tear(i, 48, 1));
        }
        Calls.dueIndex("field -1", () -> x.tear(0, -1, 1));
        Calls.due("nothing was torn", x.check(), -1);
    }

    private static void checkingFirst() {
        Calls.sentence("CHECK: the first number (by summers, from the oldest on, then by FIELDS) that is not what that summer brought by what was there then; none.");
        GreatEstate x = new GreatEstate();
        Calls.due("no rows", x.check(), -1);
        x.seasons(16);
        Calls.due("none", x.check(), -1);
        x.tear(3, 47, 1);
        Calls.due("the last number", x.check(), 4 * 48 - 1);
        x.tear(3, 0, 1);
        Calls.due("the first of the last row", x.check(), 3 * 48);
        x.tear(0, 47, 1);
        Calls.due("the last of the first row", x.check(), 47);
        x.tear(0, 0, 1);
        Calls.due("the very first", x.check(), 0);
        x.seasons(4);
        Calls.due("the oldest is gone", x.check(), 2 * 48);
        x.seasons(12);
        Calls.due("all are gone", x.check(), -1);
    }

    private static void checkingByWhatWasThere() {
        Calls.sentence("that is not what that summer brought by what was there then; none.");
        GreatEstate x = new GreatEstate();
        x.keep(0, 0, 2, 0, 0);
        x.sow(0, 1);
        x.seasons(2);
        x.field(0, 0, 9, 20, 99, 0);
        x.rain(0, -5, true);
        x.price(1, 0, 99);
        x.sow(0, 0);
        Calls.due("what comes later does not count", x.check(), -1);
        Calls.due("the number stays", x.row(0, 0), 13);
        x.give(0);
        x.sell(0, true);
        x.seasons(4);
        Calls.due("nor a sale", x.check(), -1);
        Calls.due("the number stays still", x.row(0, 0), 13);
        Calls.due("torn to what it would bring now", x.tear(0, 0, 13), 0);
        Calls.due("is not what it brought", x.check(), 0);
    }
}
