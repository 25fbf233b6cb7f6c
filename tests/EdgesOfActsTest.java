/** The sentences of part 4 that name an edge (but for the bounds of sums), and those of promises 24 to 30. */
public final class EdgesOfActsTest {
    public static void main(String[] args) {
        cutting();
        cutRefuses();
        twelveLoans();
        loanNumbers();
        loanInterest();
        loanParts();
        loanByTheWords();
        loanRefuses();
        owing();
        works();
        worksOfASoldField();
        worksWithoutCoin();
        restOfOne();
        partOfNothing();
        worthOfAField();
        selling();
        sellRefuses();
        soldFieldsStay();
        theHeir();
        wrongsKept();
        wrongNotes();
        wrongRefuses();
        Calls.finish();
    }

    private static GreatEstate withIncome(int coins) {
        GreatEstate x = new GreatEstate();
        x.keep(47, 47, 5, coins, 0);
        x.seasons(3);
        return x;
    }

    private static void cutting() {
        Calls.sentence("A FIELD of a WOOD is felled: what it brings (AGE by AGE; its AGE is 0 then), of THING wood;");
        for (int age : new int[] {0, 1, 2, 299, 300}) {
            GreatEstate x = new GreatEstate();
            Calls.words(x, 0, "fell;part wood 10");
            x.field(5, 3, 2, 1, 9, age);
            x.keep(5, 5, 3, 0, 0);
            Calls.due("brings", x.cut(5, false), age * age);
            Calls.due("age", x.look(5, 7), 0);
            Calls.due("capital", x.count(3), age * age / 10);
            Calls.due("income", x.count(2), age * age - age * age / 10);
            Calls.due("felled again", x.cut(5, false), 0);
            Calls.due("soil stays", x.look(5, 0), 3);
            Calls.due("game stays", x.look(5, 6), 9);
            Calls.due("it is a wood still", x.look(5, 10), 0);
        }
        Calls.sentence("NONE, and nothing happens, if the WORDS do not let (forced: it is WRONG). ClassCastException: its HOLDING is no WOOD, or it has none.");
        GreatEstate y = new GreatEstate();
        y.field(5, 5, 0, 0, 0, 12);
        y.keep(5, 5, 3, 0, 0);
        Calls.due("they do not let", y.cut(5, false), -1);
        Calls.due("age stays", y.look(5, 7), 12);
        Calls.due("no income", y.count(2), 0);
        Calls.due("no wrong", y.count(13), 0);
        Calls.due("forced", y.cut(5, true), 144);
        Calls.due("wrong", y.count(13), 1);
        Calls.due("income", y.count(2), 144);
        Calls.due("forced of nothing", y.cut(5, true), 0);
        Calls.due("is wrong too", y.count(13), 2);
    }

    private static void cutRefuses() {
        Calls.sentence("ClassCastException: its HOLDING is no WOOD, or it has none.");
        GreatEstate x = new GreatEstate();
        Calls.words(x, 0, "fell");
        for (int kind = 2; kind <= 5; kind++) {
            x.keep(kind, kind, kind, 0, 0);
        }
        Calls.yearly(x, 0, 0, 0, "");
        Calls.farm(x, 1, 1, 1, 0, "");
        for (int field : new int[] {0, 1, 2, 4, 5, 6}) {
            Calls.dueKind("field " + field, () -> x.cut(field, true));
            Calls.dueKind("field " + field, () -> x.cut(field, false));
        }
        Calls.due("the wood", x.cut(3, false), 0);
        x.give(1);
        Calls.dueKind("given up", () -> x.cut(3, false));
        for (int field : new int[] {-1, 48, Integer.MIN_VALUE, Integer.MAX_VALUE}) {
            Calls.dueIndex("field " + field, () -> x.cut(field, true));
        }
    }

    private static void twelveLoans() {
        Calls.sentence("LOANS (at most 12, numbered from 0 on)");
        GreatEstate x = new GreatEstate();
        for (int i = 0; i < 12; i++) {
            Calls.due("number", x.loan(1 + i, 0, 1, true), i);
            Calls.due("loans", x.count(10), i + 1);
        }
        Calls.dueRoom("a 13th", () -> x.loan(1, 0, 1, true));
        Calls.due("so many still", x.count(10), 12);
        Calls.due("capital", x.count(3), 78);
        x.seasons(4);
        Calls.due("all are paid", x.count(11), 0);
        Calls.dueRoom("they keep their numbers", () -> x.loan(1, 0, 1, true));
    }

    private static void loanNumbers() {
        Calls.sentence("so much (1 to 100000) at a RATE (0 to 2000 ten thousandths a YEAR), in so many YEARS (1 to 40)");
        GreatEstate x = new GreatEstate();
        Calls.due("the least", x.loan(1, 0, 1, true), 0);
        Calls.due("the most", x.loan(100000, 2000, 40, true), 1);
        int[][] none = {{0, 0, 1}, {-1, 0, 1}, {100001, 0, 1}, {1, -1, 1}, {1, 2001, 1}, {1, 0, 0}, {1, 0, -1}, {1, 0, 41},
            {Integer.MIN_VALUE, 0, 1}, {1, Integer.MAX_VALUE, 1}, {1, 0, Integer.MAX_VALUE}};
        for (int[] n : none) {
            Calls.dueNumber("loan " + n[0] + " " + n[1] + " " + n[2], () -> x.loan(n[0], n[1], n[2], true));
        }
        Calls.due("none came", x.count(10), 2);
        x.seasons(4);
        Calls.due("the least is paid", x.owing(0), 0);
        Calls.due("a part of the most", x.owing(1), 97500);
        Calls.due("with interest", x.count(2), -1 - 2500 - 20000);
    }

    private static void loanInterest() {
        Calls.sentence("each winter the interest (what is owed times RATE by 10000, rounded up)");
        int[][] all = {{1, 1, 1}, {10000, 1, 1}, {9999, 1, 1}, {10001, 1, 2}, {100, 100, 1}, {101, 100, 2}, {5, 2000, 1}, {6, 2000, 2}, {7, 0, 0}};
        for (int[] n : all) {
            GreatEstate x = new GreatEstate();
            x.loan(n[0], n[1], 1, true);
            x.seasons(3);
            Calls.due("not ahead of winter", x.count(2), 0);
            x.seasons(1);
            Calls.due("interest of " + n[0] + " at " + n[1], x.count(2), -n[0] - n[2]);
            x.seasons(4);
            Calls.due("none of nothing", x.count(2), -n[0] - n[2]);
        }
    }

    private static void loanParts() {
        Calls.sentence("and a PART (the loan by its YEARS, rounded up, or what is owed, if that is less).");
        int[][] all = {{10, 3, 4, 4, 2, 0}, {9, 3, 3, 3, 3, 0}, {1, 40, 1, 0, 0, 0}, {41, 40, 2, 2, 2, 2}, {7, 1, 7, 0, 0, 0}, {11, 4, 3, 3, 3, 2}};
        for (int[] n : all) {
            GreatEstate x = new GreatEstate();
            x.loan(n[0], 0, n[1], true);
            int paid = 0;
            for (int year = 0; year < 4; year++) {
                x.seasons(4);
                paid += n[2 + year];
                Calls.due("owed of " + n[0] + " in " + n[1] + " by year " + year, x.owing(0), n[0] - paid);
                Calls.due("paid of income", x.count(2), -paid);
            }
            Calls.due("capital stays", x.count(3), n[0]);
        }
    }

    private static void loanByTheWords() {
        Calls.sentence("A LOAN: its number; NONE, and it is not made, if the WORDS do not let (forced: it is WRONG).");
        GreatEstate x = new GreatEstate();
        Calls.due("they do not let", x.loan(5, 0, 1, false), -1);
        Calls.due("no loan", x.count(10), 0);
        Calls.due("no capital", x.count(3), 0);
        Calls.due("no wrong", x.count(13), 0);
        Calls.due("forced", x.loan(5, 0, 1, true), 0);
        Calls.due("wrong", x.count(13), 1);
        Calls.due("capital", x.count(3), 5);
        Calls.words(x, 0, "borrow 10");
        Calls.due("rightful though forced", x.loan(5, 0, 1, true), 1);
        Calls.due("no more wrong", x.count(13), 1);
        Calls.due("one more coin, forced", x.loan(1, 0, 1, true), 2);
        Calls.due("is wrong", x.count(13), 2);
    }

    private static void loanRefuses() {
        Calls.sentence("IllegalArgumentException: a number is none; UnsupportedOperationException: there are 12.");
        GreatEstate x = new GreatEstate();
        for (int i = 0; i < 12; i++) {
            x.loan(1, 0, 40, true);
        }
        Calls.dueRoom("forced", () -> x.loan(1, 0, 1, true));
        Calls.dueRoom("not forced, and the words do not let", () -> x.loan(1, 0, 1, false));
        Calls.dueNumber("a wrong number is told first", () -> x.loan(0, 0, 1, true));
        Calls.dueNumber("a wrong rate is told first", () -> x.loan(1, 2001, 1, true));
        Calls.dueNumber("wrong years are told first", () -> x.loan(1, 0, 0, true));
        Calls.due("wrongs", x.count(13), 12);
    }

    private static void owing() {
        Calls.sentence("What is still owed on a LOAN.");
        GreatEstate x = new GreatEstate();
        Calls.dueIndex("none yet", () -> x.owing(0));
        x.loan(3, 0, 2, true);
        Calls.due("all", x.owing(0), 3);
        for (int loan : new int[] {-1, 1, 12, Integer.MIN_VALUE, Integer.MAX_VALUE}) {
            Calls.dueIndex("loan " + loan, () -> x.owing(loan));
        }
        x.seasons(4);
        Calls.due("the rest", x.owing(0), 1);
        x.seasons(4);
        Calls.due("nothing", x.owing(0), 0);
        Calls.due("its number stays", x.loan(9, 0, 1, true), 1);
    }

    private static void works() {
        Calls.sentence("WORKS: to DRAIN a FIELD (30 coins: 20 YEARS), to LIME it (8: 6 YEARS)");
        GreatEstate x = withIncome(38);
        Calls.due("drain", x.work(0, false), true);
        Calls.due("30 coins", x.count(2), 8);
        Calls.due("20 years", x.look(0, 4), 20);
        Calls.due("no lime", x.look(0, 5), 0);
        Calls.due("lime", x.work(0, true), true);
        Calls.due("8 coins", x.count(2), 0);
        Calls.due("6 years", x.look(0, 5), 6);
        Calls.sentence("A WORK on a FIELD (lime true: LIME; false: DRAIN; its years anew): true;");
        GreatEstate y = withIncome(1000);
        y.work(0, false);
        y.work(0, true);
        y.seasons(4);
        Calls.due("drain, a year less", y.look(0, 4), 19);
        Calls.due("lime, a year less", y.look(0, 5), 5);
        Calls.due("drain again", y.work(0, false), true);
        Calls.due("anew, not added", y.look(0, 4), 20);
        Calls.due("lime again", y.work(0, true), true);
        Calls.due("anew too", y.look(0, 5), 6);
        Calls.sentence("by the PART of that THING so many hundredths of the coins, rounded down, are paid of CAPITAL, the rest of INCOME.");
        for (int part : new int[] {0, 3, 4, 12, 13, 50, 99, 100}) {
            GreatEstate z = withIncome(100);
            Calls.words(z, 3, "part lime " + part + ";part drain " + (100 - part));
            z.loan(1000, 0, 1, true);
            z.work(0, true);
            Calls.due("lime of capital by " + part, z.count(3), 1000 - 8 * part / 100);
            Calls.due("lime of income by " + part, z.count(2), 100 - 8 + 8 * part / 100);
            z.work(0, false);
            int drain = 30 * (100 - part) / 100;
            Calls.due("drain of capital by " + part, z.count(3), 1000 - 8 * part / 100 - drain);
            Calls.due("drain of income by " + part, z.count(2), 100 - 8 + 8 * part / 100 - 30 + drain);
        }
        Calls.dueIndex("field 48", () -> Calls.bit(x.work(48, true)));
        Calls.dueIndex("field -1", () -> Calls.bit(x.work(-1, false)));
    }

    private static void worksOfASoldField() {
        Calls.sentence("false, and nothing happens, if the FIELD is SOLD");
        GreatEstate x = withIncome(1000);
        x.sell(0, true);
        int income = x.count(2);
        Calls.due("lime", x.work(0, true), false);
        Calls.due("drain", x.work(0, false), false);
        Calls.due("no lime", x.look(0, 5), 0);
        Calls.due("no drain", x.look(0, 4), 0);
        Calls.due("nothing is paid", x.count(2), income);
        Calls.yearly(x, 1, 1, 0, "");
        Calls.due("one that is let", x.work(1, true), true);
    }

    private static void worksWithoutCoin() {
        Calls.sentence("or CAPITAL or INCOME is not enough for its part");
        Calls.due("income 7 for lime", withIncome(7).work(0, true), false);
        Calls.due("income 8 for lime", withIncome(8).work(0, true), true);
        Calls.due("income 29 for drain", withIncome(29).work(0, false), false);
        Calls.due("income 30 for drain", withIncome(30).work(0, false), true);
        for (int capital = 14; capital <= 15; capital++) {
            for (int income = 14; income <= 15; income++) {
                GreatEstate x = withIncome(income);
                Calls.words(x, 3, "part drain 50");
                x.loan(capital, 0, 1, true);
                boolean enough = capital == 15 && income == 15;
                Calls.due("capital " + capital + ", income " + income, x.work(0, false), enough);
                Calls.due("drain", x.look(0, 4), enough ? 20 : 0);
                Calls.due("capital then", x.count(3), enough ? 0 : capital);
                Calls.due("income then", x.count(2), enough ? 0 : income);
            }
        }
    }

    private static void restOfOne() {
        Calls.sentence("or CAPITAL or INCOME is not enough for its part");
        GreatEstate x = new GreatEstate();
        Calls.words(x, 0, "part lime 99");
        x.loan(7, 0, 40, true);
        Calls.due("7 of capital, 1 of income: none is there", x.work(0, true), false);
        x.keep(47, 47, 5, 1, 0);
        x.seasons(3);
        Calls.due("1 is there", x.work(0, true), true);
        Calls.due("capital", x.count(3), 0);
        Calls.due("income", x.count(2), 0);
    }

    private static void partOfNothing() {
        Calls.sentence("(a part of 0 is always).");
        GreatEstate x = new GreatEstate();
        Calls.words(x, 0, "part lime 100;charge 500");
        x.loan(8, 0, 40, true);
        x.seasons(4);
        Calls.due("income is below 0", x.count(2), -501);
        Calls.due("nothing of it is asked", x.work(0, true), true);
        Calls.due("it stays", x.count(2), -501);
        Calls.due("all of capital", x.count(3), 0);
        GreatEstate y = withIncome(8);
        Calls.due("no capital is asked", y.work(0, true), true);
        GreatEstate z = withIncome(8);
        Calls.words(z, 3, "part lime 12");
        Calls.due("12 hundredths of 8 are 0", z.work(0, true), true);
        GreatEstate w = withIncome(8);
        Calls.words(w, 3, "part lime 13");
        Calls.due("13 hundredths of 8 are 1", w.work(0, true), false);
    }

    private static void worthOfAField() {
        Calls.sentence("WORTH of a FIELD: 20 times SOIL and 100, less 5 times WORN and 10 times WET (without DRAIN) and 30 times SUNK, 10 at least; and AGE by AGE.");
        GreatEstate x = withIncome(1000);
        int[][] all = {{0, 0, 0, 0, 100}, {9, 0, 0, 0, 280}, {0, 9, 0, 0, 10}, {0, 8, 2, 0, 10}, {0, 8, 1, 0, 15}, {0, 9, 20, 0, 10},
            {0, 9, 20, 1, 11}, {0, 0, 18, 0, 10}, {0, 0, 17, 0, 15}, {0, 0, 19, 0, 10}, {9, 9, 20, 300, 90090}, {5, 0, 0, 10, 300}};
        for (int[] n : all) {
            x.field(0, n[0], n[1], n[2], 0, n[3]);
            Calls.due("worth of soil " + n[0] + ", wet " + n[1] + ", worn " + n[2] + ", age " + n[3], x.look(0, 12), n[4]);
        }
        x.field(0, 1, 9, 4, 0, 0);
        Calls.due("wet", x.look(0, 12), 10);
        x.work(0, false);
        Calls.due("wet with drain", x.look(0, 12), 100);
        x.keep(1, 1, 4, 300, 0);
        x.field(1, 0, 0, 0, 0, 0);
        x.seasons(1);
        Calls.due("sunk by 3", x.look(1, 12), 10);
        x.field(1, 9, 0, 0, 0, 2);
        Calls.due("sunk by 3, good soil", x.look(1, 12), 280 - 90 + 4);
    }

    private static void selling() {
        Calls.sentence("SALE of a FIELD: to be paid by its WORTH: THING land; it is of the estate no more (SOLD).");
        GreatEstate x = new GreatEstate();
        Calls.words(x, 0, "sell;part land 50");
        x.field(3, 0, 9, 20, 0, 1);
        Calls.due("brings", x.sell(3, false), 11);
        Calls.due("sold", x.look(3, 11), 1);
        Calls.due("capital", x.count(3), 5);
        Calls.due("income", x.count(2), 6);
        Calls.due("sold ones", x.count(14), 1);
        Calls.due("no field of a lease", Calls.yearly(x, 2, 4, 0, ""), -1);
        Calls.due("nor kept", x.keep(3, 3, 2, 0, 0), -1);
        for (int field = 0; field < 48; field++) {
            Calls.due("sell " + field, x.sell(field, false), field == 3 ? -1 : 200);
        }
        Calls.due("all are sold", x.count(14), 48);
    }

    private static void sellRefuses() {
        Calls.sentence("A FIELD is SOLD: what it brings; NONE, and nothing happens, if it is SOLD, of a HOLDING, or the WORDS do not let (forced: SOLD, and WRONG, if it is of none).");
        GreatEstate x = new GreatEstate();
        Calls.due("the words do not let", x.sell(0, false), -1);
        Calls.due("not sold", x.look(0, 11), 0);
        Calls.due("forced", x.sell(0, true), 200);
        Calls.due("wrong", x.count(13), 1);
        Calls.due("sold again", x.sell(0, true), -1);
        Calls.due("not wrong again", x.count(13), 1);
        x.keep(1, 1, 2, 0, 0);
        Calls.yearly(x, 2, 2, 0, "");
        Calls.due("of a hand, forced", x.sell(1, true), -1);
        Calls.due("of a yearly, forced", x.sell(2, true), -1);
        Calls.words(x, 0, "sell");
        Calls.due("of a hand, the words let", x.sell(1, false), -1);
        Calls.due("sold again, the words let", x.sell(0, false), -1);
        Calls.due("one coin of income alone", x.count(2), 200);
        Calls.due("one is sold", x.count(14), 1);
        Calls.due("still one wrong", x.count(13), 1);
        Calls.due("rightful though forced", x.sell(3, true), 200);
        Calls.due("no more wrong", x.count(13), 1);
        for (int field : new int[] {-1, 48, Integer.MIN_VALUE, Integer.MAX_VALUE}) {
            Calls.dueIndex("field " + field, () -> x.sell(field, true));
        }
    }

    private static void soldFieldsStay() {
        Calls.sentence("WINTER (SOLD FIELDS stay as they are)");
        GreatEstate x = withIncome(1000);
        x.field(0, 5, 0, 0, 7, 9);
        x.work(0, true);
        x.work(0, false);
        x.sell(0, true);
        x.keep(1, 1, 3, 0, 0);
        x.keep(8, 8, 3, 0, 0);
        x.seasons(40);
        int[] due = {5, 0, 0, 0, 20, 6, 7, 9, 0, 0, -1, 1};
        for (int what = 0; what < due.length; what++) {
            Calls.due("look " + what, x.look(0, what), due[what]);
        }
        Calls.due("another one beside them", x.look(9, 6), 10);
    }

    private static void theHeir() {
        Calls.sentence("THE HEIR: the owner dies: INCOME (if above 0) is paid out, and all HOLDINGS, LOANS and CAPITAL go on; REIGNS are one more;");
        GreatEstate x = new GreatEstate();
        Calls.due("nothing", x.heir(), 0);
        Calls.due("reigns", x.count(12), 1);
        x.keep(0, 0, 5, 1, 0);
        x.loan(40, 0, 40, true);
        x.seasons(3);
        Calls.due("1 is above 0", x.heir(), 1);
        Calls.due("income", x.count(2), 0);
        Calls.due("paid out", x.count(18), 1);
        Calls.due("capital", x.count(3), 40);
        Calls.due("loans", x.count(11), 40);
        Calls.due("holdings", x.count(5), 1);
        x.seasons(1);
        Calls.due("income is below 0", x.count(2), -1);
        Calls.due("nothing is paid out", x.heir(), 0);
        Calls.due("it stays below 0", x.count(2), -1);
        Calls.due("paid out in all", x.count(18), 1);
        Calls.due("reigns then", x.count(12), 3);
        GreatEstate y = withIncome(700);
        Calls.due("all of it", y.heir(), 700);
        Calls.due("once", y.heir(), 0);
        y.seasons(4);
        Calls.due("of the next year", y.heir(), 700);
        Calls.due("in all", y.count(18), 1400);
    }

    private static void wrongsKept() {
        Calls.sentence("WRONG number n (from 0 on; the first 60 are kept)");
        GreatEstate x = new GreatEstate();
        x.keep(0, 0, 3, 0, 0);
        for (int i = 0; i < 70; i++) {
            int n = i;
            Calls.dueNoSuch("not yet " + n, () -> x.wrong(n, 0));
            x.field(0, 5, 0, 0, 0, i);
            x.cut(0, true);
            Calls.due("in all", x.count(13), i + 1);
            if (i < 60) {
                Calls.due("the latest", x.wrong(i, 1), i * i);
            } else {
                Calls.dueNoSuch("not kept " + n, () -> x.wrong(n, 1));
            }
        }
        Calls.due("the first", x.wrong(0, 1), 0);
        Calls.due("the 60th", x.wrong(59, 1), 59 * 59);
    }

    private static void wrongNotes() {
        Calls.sentence("what 0 its kind (0 let, 1 felled, 2 lent, 3 sold), 1 its coin (a let 0), 2 the SEASON, 3 the REIGN.");
        GreatEstate x = new GreatEstate();
        Calls.farm(x, 0, 0, 1, 77, "");
        x.seasons(1);
        x.heir();
        x.field(1, 5, 0, 0, 0, 6);
        x.keep(1, 1, 3, 0, 0);
        x.cut(1, true);
        x.heir();
        x.seasons(1);
        x.loan(55, 0, 1, true);
        x.seasons(2);
        x.heir();
        x.sell(40, true);
        int[][] due = {{0, 0, 0, 0}, {1, 36, 1, 1}, {2, 55, 2, 2}, {3, 200, 4, 3}};
        for (int n = 0; n < 4; n++) {
            for (int what = 0; what < 4; what++) {
                Calls.due("wrong " + n + " " + what, x.wrong(n, what), due[n][what]);
            }
        }
    }

    private static void wrongRefuses() {
        Calls.sentence("NoSuchElementException: there is none such, or another what.");
        GreatEstate x = new GreatEstate();
        Calls.dueNoSuch("none", () -> x.wrong(0, 0));
        x.sell(0, true);
        Calls.due("one", x.wrong(0, 3), 0);
        for (int n : new int[] {-1, 1, 60, Integer.MIN_VALUE, Integer.MAX_VALUE}) {
            Calls.dueNoSuch("number " + n, () -> x.wrong(n, 0));
        }
        for (int what : new int[] {-1, 4, Integer.MIN_VALUE, Integer.MAX_VALUE}) {
            Calls.dueNoSuch("what " + what, () -> x.wrong(0, what));
        }
    }
}
