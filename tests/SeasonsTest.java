/** Promises 14 and 16 to 19: what the seasons do. */
public final class SeasonsTest {
    public static void main(String[] args) {
        seasonsGoOn();
        tenantsChoose();
        barredCrops();
        yields();
        wornByCrops();
        harvestCoin();
        rents();
        rentsPutOff();
        harmOfGame();
        gameAndAge();
        mines();
        cottages();
        goingOut();
        wasteAndKeptBack();
        ranks();
        sums();
        Calls.finish();
    }

    private static void seasonsGoOn() {
        GreatEstate x = new GreatEstate();
        Calls.due("none", x.seasons(0), 0);
        Calls.due("three", x.seasons(3), 3);
        Calls.due("year 0", x.count(1), 0);
        Calls.due("one", x.seasons(1), 4);
        Calls.due("year 1", x.count(1), 1);
        Calls.dueNumber("-1", () -> x.seasons(-1));
        Calls.dueNumber("41", () -> x.seasons(41));
        for (int i = 0; i < 9; i++) {
            Calls.due("forty", x.seasons(40), 44 + 40 * i);
        }
        Calls.due("to 400", x.seasons(40), 400);
        Calls.due("no further", x.seasons(1), 400);
        Calls.due("season", x.count(0), 400);
        Calls.due("year", x.count(1), 100);
        Calls.due("rows", x.count(17), 4);
    }

    private static void tenantsChoose() {
        GreatEstate x = new GreatEstate();
        Calls.yearly(x, 0, 0, 0, "");
        x.seasons(1);
        Calls.due("wheat by 13 times 10", x.look(0, 3), 1);
        x.price(1, 1, 5);
        x.price(2, 1, 6);
        x.price(3, 1, 6);
        x.price(4, 1, 0);
        x.seasons(4);
        Calls.due("barley by 11 times 6 (worn 2)", x.look(0, 3), 2);
        for (int crop = 1; crop < 5; crop++) {
            x.price(crop, 2, 0);
        }
        x.seasons(3);
        x.seasons(1);
        Calls.due("all hopes 0: the first", x.look(0, 3), 1);
        x.field(0, 0, 9, 20, 0, 0);
        x.seasons(4);
        Calls.due("nothing would grow: the first", x.look(0, 3), 1);
        GreatEstate y = new GreatEstate();
        Calls.yearly(y, 0, 0, 0, "");
        y.price(1, 0, 10);
        y.price(4, 0, 13);
        y.rain(0, -5, true);
        y.field(0, 5, 0, 0, 99, 0);
        y.seasons(1);
        Calls.due("130 of both, rain and game do not count", y.look(0, 3), 1);
        GreatEstate z = new GreatEstate();
        Calls.yearly(z, 0, 0, 0, "");
        z.seasons(1);
        z.price(4, 0, 100);
        z.seasons(1);
        Calls.due("what was told later does not count", z.look(0, 3), 1);
    }

    private static void barredCrops() {
        GreatEstate x = new GreatEstate();
        Calls.yearly(x, 0, 0, 0, "bar wheat after wheat;bar barley after wheat;bar turnips after wheat");
        x.seasons(1);
        Calls.due("after none nothing is barred", x.look(0, 3), 1);
        x.seasons(4);
        Calls.due("the first that is not barred", x.look(0, 3), 4);
        x.seasons(4);
        Calls.due("after grass wheat", x.look(0, 3), 1);
        GreatEstate y = new GreatEstate();
        Calls.yearly(y, 0, 0, 0, "bar wheat after wheat;bar barley after wheat;bar turnips after wheat;bar grass after wheat;bar fallow after wheat");
        y.seasons(5);
        Calls.due("all barred: fallow", y.look(0, 3), 5);
        GreatEstate z = new GreatEstate();
        Calls.yearly(z, 0, 0, 0, "bar wheat after wheat;bar barley after wheat;bar turnips after wheat;bar grass after wheat");
        z.seasons(5);
        Calls.due("fallow alone is left", z.look(0, 3), 5);
        z.seasons(4);
        Calls.due("after fallow wheat", z.look(0, 3), 1);
    }

    private static void yields() {
        GreatEstate x = new GreatEstate();
        x.keep(0, 7, 2, 0, 0);
        for (int crop = 1; crop <= 5; crop++) {
            x.sow(crop, crop);
            x.field(crop, 6, 4, 7, 0, 0);
        }
        x.rain(0, 3, true);
        x.seasons(2);
        int[] brought = {0, 8 + 6 + 3 - 3 - 4, 7 + 6 + 3 - 3 - 4, 6 + 6 + 3 - 3 - 4, 5 + 6 + 3 - 3 - 4, 0, 0, 0};
        for (int field = 0; field < 8; field++) {
            Calls.due("yield of " + field, x.look(field, 9), brought[field]);
        }
        x.field(1, 6, 8, 7, 11, 0);
        x.field(2, 0, 9, 20, 0, 0);
        x.field(3, 6, 0, 0, 99, 0);
        x.field(4, 9, 0, 0, 4, 0);
        Calls.words(x, 2, "borrow 9999;part drain 100;part lime 100");
        x.loan(1000, 0, 40, false);
        x.work(1, false);
        x.work(1, true);
        x.rain(1, -1, true);
        x.seasons(4);
        Calls.due("drained, limed, 2 eaten", x.look(1, 9), 8 + 6 - 1 + 2 - 3 - 2 - 2);
        Calls.due("0 at least", x.look(2, 9), 0);
        Calls.due("all eaten", x.look(3, 9), 0);
        Calls.due("one eaten", x.look(4, 9), 5 + 9 - 1 - 1);
        x.seasons(34);
        x.seasons(36);
        x.field(1, 6, 9, 0, 0, 0);
        Calls.due("a year of drain is left", x.look(1, 4), 1);
        Calls.due("worth by it", x.look(1, 12), 220);
        x.seasons(2);
        Calls.due("drained for the last time", x.look(1, 9), 8 + 6 - 3);
        x.seasons(2);
        Calls.due("none is left", x.look(1, 4), 0);
        Calls.due("worth without", x.look(1, 12), 100 + 120 - 90 - 10);
        x.seasons(2);
        Calls.due("not drained", x.look(1, 9), 8 + 6 - 9 - 1);
        x.give(0);
        x.seasons(4);
        Calls.due("without a crop", x.look(4, 9), 0);
    }

    private static void wornByCrops() {
        GreatEstate x = new GreatEstate();
        x.keep(0, 7, 2, 0, 0);
        for (int field = 0; field < 6; field++) {
            x.sow(field, field);
            x.field(field, 5, 0, 10, 0, 0);
        }
        x.seasons(2);
        int[] worn = {10, 12, 11, 9, 8, 7};
        for (int field = 0; field < 6; field++) {
            Calls.due("worn of " + field, x.look(field, 2), worn[field]);
            x.field(field, 5, 0, field < 3 ? 19 : 1, 0, 0);
        }
        x.seasons(4);
        int[] bounded = {19, 20, 20, 0, 0, 0};
        for (int field = 0; field < 6; field++) {
            Calls.due("worn within bounds of " + field, x.look(field, 2), bounded[field]);
        }
    }

    private static void harvestCoin() {
        GreatEstate x = new GreatEstate();
        x.keep(0, 0, 2, 0, 0);
        x.keep(1, 1, 3, 0, 0);
        Calls.yearly(x, 2, 2, 5, "");
        x.sow(0, 2);
        x.sow(1, 3);
        x.price(3, 0, 7);
        x.seasons(1);
        x.price(2, 0, 20);
        x.seasons(1);
        Calls.due("hand and wood", x.count(2), 12 * 20 + 11 * 7);
        Calls.due("paid by the hand", x.led(0, 7), 240);
        Calls.due("paid by the wood", x.led(1, 7), 77);
        Calls.due("tenant", x.led(2, 2), 5 + 130);
        Calls.due("the tenant paid nothing", x.led(2, 7), 0);
        Calls.due("all harvests", x.count(15), 240 + 77 + 130);
    }

    private static void rents() {
        GreatEstate x = new GreatEstate();
        x.price(1, 0, 3);
        x.price(2, 0, 2);
        int farm = Calls.yearly(x, 0, 0, 50, "rent 10;rent 5 if wheat<4;rent 100 if wheat>3;corn 4 of wheat;corn 9 of fallow;corn 2 of barley;rent 7 if coin>49 and arrears<1;rent 1000 if age+worn+wet+soil>0");
        Calls.due("rent", x.rent(farm), 10 + 5 + 12 + 4 + 7);
        x.price(1, 0, 4);
        Calls.due("rent by what is known", x.rent(farm), 10 + 100 + 16 + 4 + 7);
        x.price(1, 1, 100);
        Calls.due("by this year alone", x.rent(farm), 137);
        x.seasons(2);
        Calls.due("turnips: 11 times 10", x.led(farm, 2), 160);
        x.seasons(1);
        Calls.due("paid", x.led(farm, 7), 137);
        Calls.due("income", x.count(2), 137);
        Calls.due("left", x.led(farm, 2), 23);
        Calls.due("no arrears", x.led(farm, 3), 0);
        x.field(8, 0, 9, 0, 0, 0);
        int poor = Calls.yearly(x, 8, 8, 30, "rent 500;rent 1 if arrears>0");
        x.price(3, 1, 0);
        x.price(4, 1, 0);
        x.price(1, 1, 0);
        x.price(2, 1, 0);
        x.seasons(4);
        Calls.due("all that it has", x.led(poor, 2), 0);
        Calls.due("paid of it", x.led(poor, 7), 30);
        Calls.due("the rest", x.led(poor, 3), 470);
        Calls.due("by arrears", x.rent(poor), 501);
    }

    private static void rentsPutOff() {
        GreatEstate x = new GreatEstate();
        int farm = Calls.yearly(x, 0, 0, 1000, "rent 101;put 10 if year<2;put 50 if year<1;put 30 if year<2;put 0 if year>3");
        x.seasons(3);
        Calls.due("the greatest, rounded down", x.led(farm, 4), 50);
        Calls.due("the rest is paid", x.led(farm, 7), 51);
        Calls.due("all put", x.count(7), 50);
        x.seasons(4);
        Calls.due("30 more", x.led(farm, 4), 80);
        Calls.due("71 more", x.led(farm, 7), 122);
        x.seasons(4);
        Calls.due("nothing is put", x.led(farm, 4), 0);
        Calls.due("all is due", x.led(farm, 7), 122 + 101 + 80);
        x.seasons(8);
        Calls.due("0 put off is not due yet", x.led(farm, 4), 0);
        Calls.due("whole rents", x.led(farm, 7), 303 + 202);
        GreatEstate y = new GreatEstate();
        farm = Calls.yearly(y, 0, 0, 0, "rent 500;put 100 if year<1;put 20 if year<2");
        y.price(1, 0, 0);
        y.price(2, 0, 0);
        y.price(3, 0, 0);
        y.price(4, 0, 0);
        y.seasons(3);
        Calls.due("all put off", y.led(farm, 4), 500);
        Calls.due("no arrears", y.led(farm, 3), 0);
        y.seasons(4);
        Calls.due("a fifth more", y.led(farm, 4), 600);
        Calls.due("arrears: 400 less 120", y.led(farm, 3), 400 - y.led(farm, 7));
        Calls.due("wheat, worn 2", y.led(farm, 7), 120);
    }

    private static void harmOfGame() {
        GreatEstate x = new GreatEstate();
        x.field(0, 5, 0, 0, 9, 0);
        x.field(1, 5, 0, 0, 7, 0);
        int farm = Calls.yearly(x, 0, 1, 1000, "rent 100;game 100;game 50");
        x.price(1, 0, 11);
        Calls.due("rent without game", x.rent(farm), 100);
        x.seasons(3);
        Calls.due("half of 3 times 11 is off", x.led(farm, 7), 100 - 16);
        GreatEstate y = new GreatEstate();
        y.field(0, 5, 0, 0, 99, 0);
        farm = Calls.yearly(y, 0, 0, 1000, "rent 100;game 100");
        y.seasons(3);
        Calls.due("not below 0", y.led(farm, 7), 0);
        Calls.due("nothing is owed", y.led(farm, 3), 0);
        GreatEstate z = new GreatEstate();
        z.field(0, 5, 0, 0, 40, 0);
        z.keep(0, 0, 2, 0, 0);
        z.sow(0, 2);
        z.seasons(2);
        z.give(0);
        farm = Calls.yearly(z, 0, 0, 1000, "rent 100;game 100");
        z.price(2, 0, 3);
        z.seasons(1);
        Calls.due("by the crop that it ate there", z.led(farm, 7), 70);
    }

    private static void gameAndAge() {
        GreatEstate x = new GreatEstate();
        x.keep(9, 10, 3, 0, 0);
        x.keep(11, 11, 3, 0, 0);
        x.field(9, 5, 0, 0, 5, 300);
        x.field(10, 5, 0, 0, 0, 7);
        x.field(11, 5, 0, 0, 98, 0);
        x.field(3, 5, 0, 0, 99, 4);
        x.sell(2, true);
        x.seasons(3);
        Calls.due("ahead of winter", x.look(9, 6), 5);
        x.seasons(1);
        Calls.due("a half more, rounded up", x.look(9, 6), 8);
        Calls.due("of nothing", x.look(10, 6), 0);
        Calls.due("99 at most", x.look(11, 6), 99);
        Calls.due("beside", x.look(1, 6), 1);
        Calls.due("left", x.look(8, 6), 1);
        Calls.due("right", x.look(12, 6), 1);
        Calls.due("below", x.look(18, 6), 1);
        Calls.due("sold", x.look(2, 6), 0);
        Calls.due("beside, 99 at most", x.look(3, 6), 99);
        Calls.due("not beside", x.look(0, 6), 0);
        Calls.due("age", x.look(9, 7), 301);
        Calls.due("age of the other wood", x.look(11, 7), 1);
        Calls.due("age of none", x.look(3, 7), 4);
        GreatEstate y = new GreatEstate();
        y.keep(7, 7, 3, 0, 0);
        y.keep(16, 16, 3, 0, 0);
        y.keep(1, 1, 3, 0, 0);
        y.keep(8, 8, 3, 0, 0);
        y.seasons(4);
        Calls.due("beside two: once", y.look(0, 6), 1);
        Calls.due("the next row's first is not beside the last", y.look(8, 6), 0);
        Calls.due("nor the last beside it", y.look(15, 6), 1);
        Calls.due("no way round", y.look(23, 6), 0);
        Calls.due("below 16", y.look(24, 6), 1);
    }

    private static void mines() {
        GreatEstate x = new GreatEstate();
        Calls.words(x, 0, "part mine 33");
        int mine = x.keep(0, 9, 4, 250, 3);
        x.seasons(4);
        Calls.due("tons", x.led(mine, 8), 250);
        Calls.due("paid", x.led(mine, 7), 750);
        Calls.due("capital", x.count(3), 247);
        Calls.due("income", x.count(2), 503);
        int[] first = {1, 1, 0, 0};
        int[] second = {2, 1, 1, 1};
        int[] at = {0, 1, 8, 9};
        for (int i = 0; i < 4; i++) {
            Calls.due("sunk at first " + at[i], x.look(at[i], 8), first[i]);
        }
        x.seasons(4);
        for (int i = 0; i < 4; i++) {
            Calls.due("sunk then " + at[i], x.look(at[i], 8), second[i]);
        }
        GreatEstate y = new GreatEstate();
        y.keep(0, 1, 4, 2000, 0);
        y.seasons(4);
        Calls.due("9 at most", y.look(0, 8), 9);
        Calls.due("9 at most too", y.look(1, 8), 9);
        y.give(0);
        y.seasons(4);
        Calls.due("over: no tons", y.led(0, 8), 2000);
        y.keep(0, 0, 2, 0, 0);
        y.field(0, 9, 0, 0, 0, 0);
        y.sow(0, 1);
        y.seasons(2);
        Calls.due("sunk land yields nothing", y.look(0, 9), 0);
    }

    private static void cottages() {
        GreatEstate x = new GreatEstate();
        int cottage = x.keep(0, 0, 5, 12, 0);
        x.seasons(2);
        Calls.due("not yet", x.count(2), 0);
        x.seasons(1);
        Calls.due("income", x.count(2), 12);
        Calls.due("paid", x.led(cottage, 7), 12);
        x.seasons(8);
        Calls.due("each year", x.led(cottage, 7), 36);
    }

    private static void goingOut() {
        GreatEstate x = new GreatEstate();
        Calls.words(x, 0, "borrow 1000;part drain 100;part lime 100");
        x.loan(1000, 0, 40, false);
        int farm = Calls.farm(x, 0, 1, 2, 500, "owe drain 3;owe lime 10;owe drain 1;rent 1");
        Calls.due("drain", x.work(0, false), true);
        Calls.due("lime", x.work(1, true), true);
        Calls.due("drain elsewhere", x.work(2, false), true);
        Calls.due("4 times 20 and 10 times 6", x.owed(farm), 140);
        x.seasons(4);
        Calls.due("a year less", x.owed(farm), 126);
        x.seasons(3);
        int income = x.count(2);
        int coin = x.led(farm, 2);
        x.seasons(1);
        Calls.due("over", x.led(farm, 6), 1);
        Calls.due("paid out by what is left then", x.led(farm, 9), 4 * 18 + 10 * 4);
        Calls.due("of income, with the loan's part", x.count(2), income - 112 - 25);
        Calls.due("its coin stays", x.led(farm, 2), coin);
        Calls.due("owed no more", x.owed(farm), 0);
        Calls.due("its words stay", x.rent(farm), 1);
        int paid = x.led(farm, 7);
        x.seasons(4);
        Calls.due("no more rent", x.led(farm, 7), paid);
        Calls.dueIndex("owed of none", () -> x.owed(1));
        Calls.dueIndex("rent of none", () -> x.rent(-1));
        x.keep(5, 5, 2, 0, 0);
        Calls.dueKind("owed of a hand", () -> x.owed(1));
        Calls.dueKind("rent of a hand", () -> x.rent(1));
    }

    private static void wasteAndKeptBack() {
        GreatEstate x = new GreatEstate();
        Calls.words(x, 0, "borrow 1000;part drain 100;part lime 100");
        x.loan(1000, 0, 40, false);
        x.field(1, 3, 2, 9, 0, 4);
        int farm = Calls.yearly(x, 0, 1, 0, "owe drain 10;waste 7 if worn>8;waste 5 if age>3 and soil<4 and wet>1;waste 1;waste 100 if coin>0 or arrears>0");
        x.work(0, false);
        Calls.due("200 less 7, 5 and 2", x.owed(farm), 186);
        x.field(1, 3, 2, 0, 0, 0);
        Calls.due("200 less 2", x.owed(farm), 198);
        int other = Calls.yearly(x, 4, 4, 0, "owe lime 1;waste 7");
        Calls.due("0 at least", x.owed(other), 0);
        int rich = Calls.yearly(x, 6, 6, 9, "owe drain 0");
        x.rent(rich);
        Calls.due("not by another's coin", x.owed(farm), 198);
        int poor = Calls.yearly(x, 16, 16, 0, "owe drain 10;rent 250;put 10 if year<1");
        x.work(16, false);
        x.notice(poor);
        x.seasons(3);
        Calls.due("put", x.led(poor, 4), 25);
        Calls.due("arrears: 225 less 130", x.led(poor, 3), 95);
        Calls.due("owed ahead of what is kept back", x.owed(poor), 200);
        x.seasons(1);
        Calls.due("190 less 120", x.led(poor, 9), 70);
        Calls.due("no arrears", x.led(poor, 3), 0);
        Calls.due("nothing put", x.led(poor, 4), 0);
        Calls.due("it paid the rent alone", x.led(poor, 7), 130);
        GreatEstate y = new GreatEstate();
        farm = Calls.farm(y, 0, 0, 1, 0, "rent 9999");
        y.seasons(4);
        Calls.due("nothing is owed: nothing is paid", y.led(farm, 9), 0);
        Calls.due("arrears are lost", y.led(farm, 3), 0);
        Calls.due("income is what was paid", y.count(2), 130);
    }

    private static void ranks() {
        GreatEstate x = new GreatEstate();
        int[] rents = {300, 500, 300, 100, 700};
        for (int i = 0; i < 5; i++) {
            x.field(2 * i, 0, 9, 20, 0, 0);
            Calls.yearly(x, 2 * i, 2 * i, i == 3 ? 100 : 0, "rent " + rents[i]);
        }
        Calls.due("none yet", x.arrears(0), -1);
        x.seasons(3);
        int[] order = {4, 1, 0, 2};
        for (int i = 0; i < 4; i++) {
            Calls.due("rank " + i, x.arrears(i), order[i]);
        }
        Calls.due("rank 4", x.arrears(4), -1);
        Calls.due("rank -1", x.arrears(-1), -1);
        Calls.due("all arrears", x.count(6), 1800);
        GreatEstate y = new GreatEstate();
        y.field(0, 0, 9, 20, 0, 0);
        Calls.yearly(y, 0, 0, 4, "rent 5");
        y.seasons(3);
        Calls.due("arrears of 1", y.led(0, 3), 1);
        Calls.due("are some", y.arrears(0), 0);
    }

    private static void sums() {
        GreatEstate x = new GreatEstate();
        StringBuilder lease = new StringBuilder("corn 999999 of wheat");
        for (int i = 1; i < 16; i++) {
            lease.append(";corn 999999 of wheat");
        }
        int farm = Calls.yearly(x, 0, 0, 0, lease.toString());
        int other = Calls.yearly(x, 4, 4, 0, lease + "");
        for (int year = 0; year < 3; year++) {
            x.price(1, year, 100);
        }
        Calls.due("a great rent", x.rent(farm), 1599998400);
        x.field(0, 0, 9, 20, 0, 0);
        x.seasons(3);
        Calls.due("great arrears", x.led(farm, 3), 1599998400);
        Calls.due("the other pays 1300", x.led(other, 3), 1599998400 - 1300);
        Calls.due("all are bounded", x.count(6), 2000000000);
        x.seasons(4);
        Calls.due("what is beyond is lost", x.led(farm, 3), 2000000000);
    }
}
