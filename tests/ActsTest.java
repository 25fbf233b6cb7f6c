/** Promises 24 to 30: cut, loan, owing, work, sell, heir, wrong. */
public final class ActsTest {
    public static void main(String[] args) {
        cutting();
        lending();
        payingLoans();
        twelveLoans();
        works();
        selling();
        heirs();
        wrongs();
        Calls.finish();
    }

    private static void cutting() {
        GreatEstate x = new GreatEstate();
        x.field(0, 5, 0, 0, 3, 21);
        x.field(1, 5, 0, 0, 0, 9);
        x.keep(0, 1, 3, 0, 0);
        x.keep(2, 2, 2, 0, 0);
        Calls.due("without words", x.cut(0, false), -1);
        Calls.due("nothing happened", x.look(0, 7), 21);
        Calls.words(x, 0, "fell if age>20;part wood 60");
        Calls.due("cut", x.cut(0, false), 441);
        Calls.due("age", x.look(0, 7), 0);
        Calls.due("game stays", x.look(0, 6), 3);
        Calls.due("capital", x.count(3), 264);
        Calls.due("income", x.count(2), 177);
        Calls.due("not in what it paid", x.led(0, 7), 0);
        Calls.due("too young now", x.cut(0, false), -1);
        Calls.due("young, forced", x.cut(1, true), 81);
        Calls.due("wrong", x.count(13), 1);
        Calls.due("kind", x.wrong(0, 0), 1);
        Calls.due("coin", x.wrong(0, 1), 81);
        x.field(1, 5, 0, 0, 0, 30);
        Calls.due("rightful though forced", x.cut(1, true), 900);
        Calls.due("wrong still", x.count(13), 1);
        Calls.dueKind("a hand", () -> x.cut(2, true));
        Calls.dueKind("none", () -> x.cut(3, true));
        Calls.dueIndex("48", () -> x.cut(48, true));
        Calls.dueIndex("-1", () -> x.cut(-1, true));
        x.seasons(4);
        Calls.due("it grows again", x.look(0, 7), 1);
    }

    private static void lending() {
        GreatEstate x = new GreatEstate();
        Calls.due("without words", x.loan(1, 0, 1, false), -1);
        Calls.words(x, 0, "borrow 500");
        Calls.due("too much", x.loan(501, 0, 1, false), -1);
        Calls.due("just so much", x.loan(300, 0, 10, false), 0);
        Calls.due("too much in all", x.loan(201, 0, 1, false), -1);
        Calls.due("in all", x.loan(200, 0, 10, false), 1);
        Calls.due("capital", x.count(3), 500);
        Calls.due("no income", x.count(2), 0);
        Calls.due("loans", x.count(10), 2);
        Calls.due("owed", x.count(11), 500);
        Calls.due("forced", x.loan(7, 0, 1, true), 2);
        Calls.due("wrong", x.wrong(0, 0) * 1000 + x.wrong(0, 1), 2007);
        x.seasons(4);
        Calls.due("paid back, one may borrow anew", x.loan(50, 0, 1, false), 3);
        Calls.due("and no more", x.loan(1, 0, 1, false), -1);
        Calls.dueNumber("n 0", () -> x.loan(0, 0, 1, true));
        Calls.dueNumber("n 100001", () -> x.loan(100001, 0, 1, true));
        Calls.dueNumber("rate -1", () -> x.loan(1, -1, 1, true));
        Calls.dueNumber("rate 2001", () -> x.loan(1, 2001, 1, true));
        Calls.dueNumber("years 0", () -> x.loan(1, 0, 0, true));
        Calls.dueNumber("years 41", () -> x.loan(1, 0, 41, true));
        Calls.dueIndex("owing 4", () -> x.owing(4));
        Calls.dueIndex("owing -1", () -> x.owing(-1));
    }

    private static void payingLoans() {
        GreatEstate x = new GreatEstate();
        Calls.due("forced", x.loan(1000, 333, 3, true), 0);
        x.seasons(3);
        Calls.due("not yet", x.owing(0), 1000);
        x.seasons(1);
        Calls.due("a part, rounded up", x.owing(0), 666);
        Calls.due("with interest, rounded up", x.count(2), -334 - 34);
        x.seasons(4);
        Calls.due("second", x.owing(0), 332);
        Calls.due("interest of 666", x.count(2), -368 - 334 - 23);
        x.seasons(4);
        Calls.due("the rest alone", x.owing(0), 0);
        Calls.due("interest of 332", x.count(2), -725 - 332 - 12);
        x.seasons(4);
        Calls.due("no more", x.count(2), -1069);
        Calls.due("capital stays", x.count(3), 1000);
        Calls.due("it keeps its number", x.count(10), 1);
        Calls.due("nothing is owed", x.count(11), 0);
        GreatEstate y = new GreatEstate();
        y.loan(100000, 2000, 40, true);
        y.seasons(4);
        Calls.due("a great loan", y.count(2), -20000 - 2500);
    }

    private static void twelveLoans() {
        GreatEstate x = new GreatEstate();
        for (int i = 0; i < 12; i++) {
            Calls.due("loan " + i, x.loan(1 + i, 0, 1, true), i);
        }
        Calls.dueRoom("loan 13", () -> x.loan(1, 0, 1, true));
        Calls.dueRoom("ahead of the words", () -> x.loan(1, 0, 1, false));
        Calls.dueNumber("numbers are asked first", () -> x.loan(0, 0, 1, true));
        x.seasons(4);
        Calls.dueRoom("also when all are paid", () -> x.loan(1, 0, 1, true));
        Calls.due("wrong", x.count(13), 12);
    }

    private static void works() {
        GreatEstate x = new GreatEstate();
        Calls.due("no income", x.work(0, true), false);
        Calls.words(x, 0, "part lime 30;part drain 100;borrow 1000");
        Calls.due("no capital for 2, no income for 6", x.work(0, true), false);
        x.loan(31, 0, 40, false);
        Calls.due("no income for 6", x.work(0, true), false);
        Calls.due("a part of 0 is always enough", x.work(0, false), true);
        Calls.due("capital", x.count(3), 1);
        Calls.due("drain", x.look(0, 4), 20);
        Calls.due("not again", x.work(0, false), false);
        x.keep(8, 8, 5, 9, 0);
        x.seasons(4);
        Calls.due("drain is a year less", x.look(0, 4), 19);
        Calls.due("income is there, capital is short", x.work(0, true), false);
        x.loan(31, 0, 40, false);
        Calls.due("lime", x.work(0, true), true);
        Calls.due("6 years", x.look(0, 5), 6);
        Calls.due("capital", x.count(3), 30);
        Calls.due("income", x.count(2), 8 - 6);
        Calls.due("drain anew", x.work(0, false), true);
        Calls.due("20 years", x.look(0, 4), 20);
        x.seasons(40);
        Calls.due("lime is gone", x.look(0, 5), 0);
        Calls.due("drain", x.look(0, 4), 10);
        GreatEstate y = new GreatEstate();
        y.keep(8, 8, 5, 8, 0);
        y.seasons(3);
        Calls.due("all of income", y.work(0, true), true);
        Calls.due("nothing is left", y.count(2), 0);
        y.sell(1, true);
        y.loan(100, 0, 1, true);
        Calls.due("a sold field", y.work(1, true), false);
        Calls.dueIndex("48", () -> Calls.bit(y.work(48, true)));
        Calls.dueIndex("-1", () -> Calls.bit(y.work(-1, true)));
        int left = y.look(0, 5);
        y.sell(0, true);
        y.seasons(1);
        Calls.due("winter leaves a sold field as it is", y.look(0, 5), left);
    }

    private static void selling() {
        GreatEstate x = new GreatEstate();
        x.field(0, 3, 2, 5, 0, 4);
        Calls.due("without words", x.sell(0, false), -1);
        Calls.words(x, 0, "sell if soil<5;part land 51");
        Calls.due("sell", x.sell(0, false), 100 + 60 - 20 - 25 + 16);
        Calls.due("sold", x.look(0, 11), 1);
        Calls.due("sold fields", x.count(14), 1);
        Calls.due("capital", x.count(3), 66);
        Calls.due("income", x.count(2), 65);
        Calls.due("again", x.sell(0, true), -1);
        Calls.due("good soil", x.sell(1, false), -1);
        Calls.due("forced", x.sell(1, true), 200);
        Calls.due("wrong", x.wrong(0, 0) * 1000 + x.wrong(0, 1), 3200);
        x.keep(2, 2, 2, 0, 0);
        x.field(2, 1, 0, 0, 0, 0);
        Calls.due("of a holding", x.sell(2, false), -1);
        Calls.due("of a holding, forced", x.sell(2, true), -1);
        Calls.due("one wrong", x.count(13), 1);
        x.give(0);
        Calls.due("of none", x.sell(2, true), 120);
        Calls.due("rightful", x.count(13), 1);
        Calls.dueIndex("48", () -> x.sell(48, true));
        Calls.dueIndex("-1", () -> x.sell(-1, true));
    }

    private static void heirs() {
        GreatEstate x = new GreatEstate();
        Calls.due("nothing", x.heir(), 0);
        Calls.due("reigns", x.count(12), 1);
        x.keep(0, 0, 5, 40, 0);
        x.loan(100, 0, 2, true);
        x.seasons(3);
        Calls.due("income", x.heir(), 40);
        Calls.due("is paid out", x.count(2), 0);
        Calls.due("paid out in all", x.count(18), 40);
        Calls.due("capital goes on", x.count(3), 100);
        Calls.due("loans go on", x.owing(0), 100);
        Calls.due("holdings go on", x.count(5), 1);
        x.seasons(1);
        Calls.due("below 0", x.count(2), -50);
        Calls.due("nothing is paid out", x.heir(), 0);
        Calls.due("it goes on", x.count(2), -50);
        Calls.due("reigns then", x.count(12), 3);
        x.loan(9, 0, 2, true);
        Calls.due("the reign of a wrong", x.wrong(1, 3), 3);
        Calls.due("the season of a wrong", x.wrong(1, 2), 4);
        Calls.due("the first one's reign", x.wrong(0, 3), 1);
    }

    private static void wrongs() {
        GreatEstate x = new GreatEstate();
        x.keep(0, 0, 3, 0, 0);
        for (int i = 0; i < 62; i++) {
            x.field(0, 5, 0, 0, 0, i);
            Calls.due("cut " + i, x.cut(0, true), i * i);
        }
        Calls.due("all", x.count(13), 62);
        Calls.due("the last kept", x.wrong(59, 1), 59 * 59);
        Calls.dueNoSuch("not kept", () -> x.wrong(60, 0));
        Calls.dueNoSuch("-1", () -> x.wrong(-1, 0));
        Calls.dueNoSuch("what 4", () -> x.wrong(0, 4));
        Calls.dueNoSuch("what -1", () -> x.wrong(0, -1));
    }
}
