/** Promises 20, 22, 23 and the words in force. */
public final class WordsTest {
    public static void main(String[] args) {
        wordsComeInOrder();
        strikes();
        strikeInItsOwnText();
        conditionsOfFields();
        conditionsJoin();
        charges();
        parts();
        twelveTexts();
        refuses();
        Calls.finish();
    }

    private static void wordsComeInOrder() {
        GreatEstate x = new GreatEstate();
        Calls.due("later", Calls.words(x, 5, "years 9;borrow 90"), 2);
        Calls.due("now", Calls.words(x, 0, "years 3;years 4;borrow 10"), 3);
        Calls.due("now too", Calls.words(x, 0, "years 5"), 1);
        Calls.due("between", Calls.words(x, 3, "years 7"), 1);
        Calls.due("texts", x.count(8), 4);
        Calls.due("lines in force", x.count(9), 4);
        Calls.due("years", x.may(0, 0), 5);
        Calls.due("why years", x.why(0, 0), 32);
        Calls.due("borrow", x.may(2, 0), 10);
        Calls.due("why borrow", x.why(2, 0), 18);
        x.seasons(3);
        Calls.due("years at 3", x.may(0, 0), 7);
        Calls.due("why at 3", x.why(0, 0), 48);
        Calls.due("lines at 3", x.count(9), 5);
        x.seasons(2);
        Calls.due("years at 5", x.may(0, 0), 9);
        Calls.due("why at 5", x.why(0, 0), 0);
        Calls.due("borrow at 5", x.may(2, 0), 90);
        Calls.due("why borrow at 5", x.why(2, 0), 1);
        Calls.due("same season, later come", Calls.words(x, 5, "years 2"), 1);
        Calls.due("the last", x.may(0, 0), 2);
        Calls.due("why the last", x.why(0, 0), 64);
    }

    private static void strikes() {
        GreatEstate x = new GreatEstate();
        Calls.words(x, 0, "years 3;fell;borrow 5;sell;part wood 50;part land 20;charge 9");
        Calls.words(x, 2, "strike part;strike years;sell;fell if age>3");
        Calls.words(x, 1, "years 8;charge 4");
        Calls.words(x, 4, "strike sell;strike fell;strike charge;strike borrow");
        Calls.due("lines at 0", x.count(9), 7);
        Calls.due("why fell at 0", x.why(1, 0), 1);
        x.seasons(1);
        Calls.due("lines at 1", x.count(9), 9);
        Calls.due("charges at 1", x.may(4, 0), 13);
        Calls.due("why charge at 1", x.why(4, 0), 6);
        Calls.due("part wood at 1", x.may(7, 0), 50);
        x.seasons(1);
        Calls.due("struck though it came later", x.may(0, 0), 0);
        Calls.due("why none", x.why(0, 0), -1);
        Calls.due("part wood", x.may(7, 0), 0);
        Calls.due("part land", x.may(9, 0), 0);
        Calls.due("lines at 2", x.count(9), 9 + 4 - 4);
        Calls.due("why sell at 2", x.why(3, 0), 3);
        Calls.due("why fell at 2", x.why(1, 0), 1);
        x.seasons(2);
        Calls.due("lines at 4", x.count(9), 2 + 4);
        Calls.due("sell", x.may(3, 0), 0);
        Calls.due("fell", x.may(1, 0), 0);
        Calls.due("charges", x.may(4, 0), 0);
        Calls.due("borrow", x.may(2, 0), 0);
        Calls.due("why sell", x.why(3, 0), -1);
        Calls.due("why fell", x.why(1, 0), -1);
        Calls.due("why borrow", x.why(2, 0), -1);
        Calls.due("why charge", x.why(4, 0), -1);
        Calls.words(x, 4, "sell if 1>2;sell");
        Calls.due("sell anew", x.may(3, 0), 1);
        Calls.due("why anew", x.why(3, 0), 65);
    }

    private static void strikeInItsOwnText() {
        GreatEstate x = new GreatEstate();
        Calls.words(x, 0, "years 3");
        Calls.words(x, 0, "years 4;strike years;sell");
        Calls.due("its own stays", x.may(0, 0), 4);
        Calls.due("lines", x.count(9), 3);
        Calls.words(x, 0, "strike years");
        Calls.due("struck by the next", x.may(0, 0), 0);
        Calls.due("lines then", x.count(9), 3);
        Calls.words(x, 0, "years 6");
        Calls.due("one behind stays", x.may(0, 0), 6);
        Calls.words(x, 1, "strike sell");
        Calls.due("not in force yet", x.may(3, 0), 1);
    }

    private static void conditionsOfFields() {
        GreatEstate x = new GreatEstate();
        Calls.words(x, 0, "fell if age>30;fell if worn+wet>10;sell if soil<3;sell if coin>0;sell if arrears>0");
        x.field(1, 5, 0, 0, 0, 31);
        x.field(2, 5, 5, 6, 0, 30);
        x.field(3, 2, 9, 1, 0, 0);
        int[] fell = {0, 1, 1, 0};
        int[] whyFell = {-1, 0, 1, -1};
        int[] sell = {0, 0, 0, 1};
        for (int field = 0; field < 4; field++) {
            Calls.due("fell " + field, x.may(1, field), fell[field]);
            Calls.due("why fell " + field, x.why(1, field), whyFell[field]);
            Calls.due("sell " + field, x.may(3, field), sell[field]);
        }
        x.keep(8, 8, 5, 3, 0);
        x.seasons(3);
        Calls.due("coin is income", x.may(3, 0), 1);
        Calls.due("why by coin", x.why(3, 0), 3);
        Calls.due("why by soil", x.why(3, 3), 2);
    }

    private static void conditionsJoin() {
        String[] conditions = {
            "1<2", "2<1", "1<1", "1>1", "2>1", "not 1<2", "not not 1<2", "1<2 and 2<1", "1<2 or 2<1",
            "2<1 and 2<1 or 1<2", "1<2 or 2<1 and 2<1", "(1<2 or 2<1) and 2<1", "not 2<1 and 1<2", "not (2<1 or 1<2)",
            "not 1<2 or 1<2", "1+1+1>2", "1+1+1>3", "5<2+2+2", "6<2+2+2", "year<1", "wheat>9 and wheat<11",
            "barley+turnips+grass>29", "not(1<2 and(2<1 or not 3<2))", "age+worn+wet+arrears<1", "soil<5 or soil>5",
            "2<1 or 2<1 or 2<1 or 1<2", "1<2 and 1<2 and 1<2 and 2<1",
            "999999>999998", "999999+999999+999999>999999+999999"};
        int[] hold = {1, 0, 0, 0, 1, 0, 1, 0, 1, 1, 1, 0, 1, 0, 1, 1, 0, 1, 0, 1, 1, 1, 0, 1, 0, 1, 0, 1, 1};
        for (int i = 0; i < conditions.length; i++) {
            GreatEstate x = new GreatEstate();
            Calls.words(x, 0, "sell if " + conditions[i]);
            Calls.due(conditions[i], x.may(3, 0), hold[i]);
        }
    }

    private static void charges() {
        GreatEstate x = new GreatEstate();
        Calls.words(x, 0, "charge 7;charge 100 if year>0;charge 20 if coin<0;charge 3 if age+worn+wet+soil>0");
        x.keep(0, 0, 5, 7, 0);
        Calls.due("of this year", x.may(4, 0), 7);
        x.seasons(4);
        Calls.due("paid", x.count(16), 7);
        Calls.due("of income", x.count(2), 0);
        Calls.due("of year 1", x.may(4, 0), 107);
        Calls.due("why", x.why(4, 0), 0);
        x.seasons(4);
        Calls.due("paid by year 1", x.count(16), 114);
        Calls.due("income is below 0", x.count(2), 7 - 107);
        Calls.due("then 20 more", x.may(4, 0), 127);
        x.seasons(4);
        Calls.due("paid by year 2", x.count(16), 241);
        Calls.due("income then", x.count(2), -100 + 7 - 127);
    }

    private static void parts() {
        GreatEstate x = new GreatEstate();
        Calls.words(x, 0, "part lime 1;part drain 2;part wood 3;part mine 4;part land 5;part wood 6");
        int[] parts = {1, 2, 6, 4, 5};
        for (int i = 0; i < 5; i++) {
            Calls.due("part " + i, x.may(5 + i, 47), parts[i]);
        }
        Calls.words(x, 0, "part land 100");
        Calls.due("land", x.may(9, 0), 100);
        Calls.due("lime stays", x.may(5, 0), 1);
        Calls.words(x, 0, "strike part;part mine 9");
        Calls.due("lime is struck", x.may(5, 0), 0);
        Calls.due("mine anew", x.may(8, 0), 9);
    }

    private static void twelveTexts() {
        GreatEstate x = new GreatEstate();
        for (int i = 0; i < 12; i++) {
            Calls.due("text " + i, Calls.words(x, 12 - i, "years " + i + ";sell"), 2);
        }
        Calls.tape(x, "sell");
        Calls.dueRoom("text 13", () -> x.words(0));
        Calls.due("the tape is used up", x.end(1), false);
        Calls.due("it was read", x.fault(), -1);
        Calls.tape(x, "sell x");
        Calls.dueNumber("a wrong text 13", () -> x.words(0));
        Calls.due("its place", x.fault(), 5);
        Calls.dueNumber("the season is asked first", () -> x.words(401));
        Calls.due("texts", x.count(8), 12);
        x.seasons(12);
        Calls.due("the first text is the last", x.may(0, 0), 0);
        Calls.due("why", x.why(0, 0), 0);
        Calls.due("the last text is the first", x.why(3, 0), 177);
        Calls.due("lines", x.count(9), 24);
    }

    private static void refuses() {
        GreatEstate x = new GreatEstate();
        x.seasons(3);
        Calls.dueNumber("ahead of now", () -> x.words(2));
        Calls.dueNumber("behind 400", () -> x.words(401));
        Calls.due("400", Calls.words(x, 400, "sell"), 1);
        Calls.due("not in force", x.may(3, 0), 0);
        Calls.dueIndex("may -1", () -> x.may(0, -1));
        Calls.dueIndex("may 48 ahead of what", () -> x.may(10, 48));
        Calls.dueNoSuch("may what 10", () -> x.may(10, 0));
        Calls.dueNoSuch("may what -1", () -> x.may(-1, 0));
        Calls.dueIndex("why 48", () -> x.why(0, 48));
        Calls.dueIndex("why -1 ahead of what", () -> x.why(5, -1));
        Calls.dueNoSuch("why what 5", () -> x.why(5, 0));
        Calls.dueNoSuch("why what -1", () -> x.why(-1, 0));
    }
}
