/** Promises 31 to 35: plans, and what to sell. */
public final class PlansTest {
    public static void main(String[] args) {
        worthOfSets();
        lasting();
        bestSets();
        limits();
        refuses();
        whatToSell();
        toSellRefuses();
        Calls.finish();
    }

    private static void worthOfSets() {
        GreatEstate x = new GreatEstate();
        Calls.due("nothing", x.worth(100, 0, 0), 100);
        Calls.due("charges", x.worth(100, 3, 0), 10);
        Calls.due("job", x.job(50, 10, 0), 1);
        Calls.due("job 2", x.job(20, 1, 29), 2);
        Calls.due("29 years behind", x.worth(100, 0, 1), 100 - 50 + 290);
        Calls.due("none behind", x.worth(100, 0, 2), 80);
        Calls.due("both", x.worth(100, 0, 3), 320);
        Calls.due("bits of others", x.worth(100, 0, -4), 100);
        Calls.due("all bits", x.worth(100, 0, -1), 320);
        Calls.due("trouble", x.trouble(5, -1), 1);
        Calls.due("5 and 29 years more of 1 less each", x.worth(1000, 0, 0), 1000 + 150 - 435);
        Calls.due("trouble 2", x.trouble(-3, 0), 2);
        Calls.due("the least", x.worth(1000, 0, 0), 715);
        Calls.due("the least with both", x.worth(1000, 1, 3), 715 + 240 - 20 - 30);
        Calls.due("nothing changes", x.count(2), 0);
    }

    private static void lasting() {
        GreatEstate x = new GreatEstate();
        x.job(50, 10, 0);
        Calls.due("just lasts", x.worth(50, 0, 1), 290);
        Calls.due("does not", x.worth(49, 0, 1), -1000000000);
        x.trouble(1, 0);
        Calls.due("income comes ahead of costs", x.worth(49, 0, 1), 29 + 290);
        x.trouble(0, 0);
        Calls.due("not through all", x.worth(49, 0, 1), -1000000000);
        GreatEstate y = new GreatEstate();
        y.trouble(-100, 1000);
        Calls.due("below 0 in the first year", y.worth(99, 0, 0), -1000000000);
        Calls.due("through it", y.worth(100, 0, 0), 100 - 3000 + 435000);
        y.job(0, 10000, 29);
        Calls.due("the last year brings nothing", y.worth(100, 0, 1), 432100);
    }

    private static void bestSets() {
        GreatEstate x = new GreatEstate();
        Calls.due("nothing to do", x.best(0, 0), 0);
        Calls.due("nothing lasts", x.best(0, 1), -1);
        x.job(100, 5, 0);
        x.job(100, 5, 0);
        x.job(29, 1, 0);
        Calls.due("one of two, the least bits", x.best(129, 0), 1);
        Calls.due("both", x.best(200, 0), 3);
        Calls.due("one that brings nothing is left", x.best(1000, 0), 3);
        Calls.due("none can be paid", x.best(99, 0), 0);
        x.trouble(-50, 0);
        Calls.due("none lasts", x.best(1000, 0), -1);
        GreatEstate y = new GreatEstate();
        y.job(100, 10, 5);
        y.job(10, 10, 0);
        y.trouble(0, 0);
        Calls.due("the first pays for the second", y.best(60, 0), 3);
        Calls.due("without it", y.worth(60, 0, 1), -1000000000);
        GreatEstate z = new GreatEstate();
        z.job(0, 1, 0);
        z.job(0, 1, 0);
        z.job(0, 2, 0);
        z.job(100, 5, 20);
        Calls.due("all that bring", z.best(0, 0), 7);
        GreatEstate w = new GreatEstate();
        w.job(10, 1, 0);
        w.job(10, 1, 0);
        w.job(10, 2, 0);
        Calls.due("the best of one", w.best(10, 0), 4);
        GreatEstate v = new GreatEstate();
        v.job(10, 1, 0);
        v.job(10, 1, 0);
        v.job(20, 2, 0);
        Calls.due("the fewest works", v.best(20, 0), 4);
    }

    private static void limits() {
        GreatEstate x = new GreatEstate();
        for (int i = 1; i <= 6; i++) {
            Calls.due("job " + i, x.job(0, i, 0), i);
        }
        Calls.due("job 7", x.job(0, 1, 0), -1);
        Calls.due("it did not come", x.worth(0, 0, -1), 29 * 21);
        for (int i = 1; i <= 4; i++) {
            Calls.due("trouble " + i, x.trouble(i, 0), i);
        }
        Calls.due("trouble 5", x.trouble(-1, 0), -1);
        Calls.due("nor did it", x.worth(0, 0, 0), 30);
        Calls.dueNumber("job is asked first", () -> x.job(-1, 0, 0));
        Calls.dueNumber("trouble is asked first", () -> x.trouble(100001, 0));
        Calls.due("best of six", x.best(0, 0), 63);
    }

    private static void refuses() {
        GreatEstate x = new GreatEstate();
        Calls.dueNumber("cost -1", () -> x.job(-1, 0, 0));
        Calls.dueNumber("cost 100001", () -> x.job(100001, 0, 0));
        Calls.dueNumber("brings -1", () -> x.job(0, -1, 0));
        Calls.dueNumber("brings 10001", () -> x.job(0, 10001, 0));
        Calls.dueNumber("year -1", () -> x.job(0, 0, -1));
        Calls.dueNumber("year 30", () -> x.job(0, 0, 30));
        Calls.dueNumber("first -100001", () -> x.trouble(-100001, 0));
        Calls.dueNumber("first 100001", () -> x.trouble(100001, 0));
        Calls.dueNumber("change -1001", () -> x.trouble(0, -1001));
        Calls.dueNumber("change 1001", () -> x.trouble(0, 1001));
        Calls.dueNumber("coin -1", () -> x.worth(-1, 0, 0));
        Calls.dueNumber("coin 1000001", () -> x.worth(1000001, 0, 0));
        Calls.dueNumber("charge -1", () -> x.worth(0, -1, 0));
        Calls.dueNumber("charge 100001", () -> x.worth(0, 100001, 0));
        Calls.dueNumber("best coin -1", () -> x.best(-1, 0));
        Calls.dueNumber("best coin 1000001", () -> x.best(1000001, 0));
        Calls.dueNumber("best charge -1", () -> x.best(0, -1));
        Calls.dueNumber("best charge 100001", () -> x.best(0, 100001));
        Calls.due("the bounds", x.job(100000, 10000, 29), 1);
        Calls.due("the bounds too", x.trouble(-100000, -1000), 1);
        Calls.due("great coin", x.worth(1000000, 100000, 0), -1000000000);
    }

    private static void whatToSell() {
        GreatEstate x = new GreatEstate();
        Calls.due("none may be sold", x.toSell(0, 4, 1), -1);
        Calls.due("none need be sold", x.toSell(0, 4, 0), 0);
        Calls.words(x, 0, "sell if soil<9");
        Calls.due("a corner parts two pairs", x.toSell(0, 4, 200), 1);
        Calls.due("two at the corner", x.toSell(0, 4, 400), 3);
        x.field(0, 9, 0, 0, 0, 0);
        Calls.due("the corner may not be sold", x.toSell(0, 4, 200), 2);
        Calls.due("all four may not", x.toSell(0, 4, 601), -1);
        Calls.due("one that is held may", x.keep(1, 1, 2, 0, 0) == 0 && x.toSell(0, 4, 200) == 2, true);
        x.sell(9, true);
        Calls.due("a sold one beside parts nothing", x.toSell(0, 4, 200), 2);
        x.field(2, 5, 1, 0, 0, 0);
        x.sell(10, true);
        Calls.due("of equal pairs the least worth", x.toSell(1, 2, 100), 2);
        Calls.due("a sold one is not sold again", x.toSell(9, 2, 1), -1);
        GreatEstate y = new GreatEstate();
        Calls.words(y, 0, "sell");
        y.sell(1, false);
        y.sell(8, false);
        Calls.due("alone it parts none", y.toSell(0, 1, 200), 1);
        Calls.due("of eight the least bits", y.toSell(0, 8, 201), 5);
        Calls.due("the end of a row and the next begin", y.toSell(7, 2, 1), 1);
        Calls.due("as many as there are", y.toSell(40, 8, 1600), 255);
        Calls.due("not so much", y.toSell(40, 8, 1601), -1);
        Calls.due("great coin", y.toSell(40, 8, 100000), -1);
    }

    private static void toSellRefuses() {
        GreatEstate x = new GreatEstate();
        Calls.dueIndex("from -1", () -> x.toSell(-1, 1, 0));
        Calls.dueIndex("from 48 ahead of n", () -> x.toSell(48, 0, 0));
        Calls.dueNumber("n 0", () -> x.toSell(0, 0, 0));
        Calls.dueNumber("n 9", () -> x.toSell(0, 9, 0));
        Calls.dueNumber("n great", () -> x.toSell(0, Integer.MAX_VALUE, 0));
        Calls.dueNumber("not so many", () -> x.toSell(41, 8, 0));
        Calls.dueNumber("coin -1", () -> x.toSell(0, 1, -1));
        Calls.dueNumber("coin 100001", () -> x.toSell(0, 1, 100001));
    }
}
