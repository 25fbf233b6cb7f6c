/** Promises 9, 20 and 21: the texts, and the first wrong byte of one. */
public final class TextsTest {
    public static void main(String[] args) {
        rightLeases();
        rightActs();
        wrongLeases();
        wrongActs();
        wrongConditions();
        depth();
        linesInAText();
        whenATextIsRead();
        wrongTextsLeaveRoom();
        Calls.finish();
    }

    private static void lease(String text, int fault) {
        GreatEstate x = new GreatEstate();
        Calls.tape(x, text);
        String got = Calls.outcome(() -> x.let(0, 0, 0, 0, false));
        Calls.due("lease '" + text + "' is right", got.equals("0"), fault < 0);
        Calls.due("lease '" + text + "' throws", got.equals("IllegalArgumentException"), fault >= 0);
        Calls.due("fault of lease '" + text + "'", x.fault(), fault);
        Calls.due("lease '" + text + "' is used up", x.end(1), false);
    }

    private static void act(String text, int lines, int fault) {
        GreatEstate x = new GreatEstate();
        Calls.tape(x, text);
        String got = Calls.outcome(() -> x.words(0));
        Calls.due("act '" + text + "' gave " + got, got.equals(fault < 0 ? String.valueOf(lines) : "IllegalArgumentException"), true);
        Calls.due("fault of act '" + text + "'", x.fault(), fault);
        Calls.due("act '" + text + "' is used up", x.end(1), false);
        Calls.due("texts by '" + text + "'", x.count(8), fault < 0 ? 1 : 0);
    }

    private static void rightLeases() {
        lease("", -1);
        lease("   ", -1);
        lease("rent 5", -1);
        lease("  rent5if year<3and wheat>1or not(age<1)  ;corn 0of fallow", -1);
        lease("rent 999999;corn 999999 of wheat;bar wheat after wheat;owe lime 1;owe drain 0;waste 3;waste 4 if age>1;put 100 if 1<2;game 0;game 100", -1);
        lease("rent 000001 if year+wheat+barley+turnips+grass+age+worn+wet+soil+coin+arrears>0", -1);
        lease("put 0 if((1<2))", -1);
    }

    private static void rightActs() {
        act("", 0, -1);
        act("    ", 0, -1);
        act("years 5;fell;borrow 0;sell;part lime 0;part drain 100;part wood 1;part mine 2;part land 3;charge 7", 10, -1);
        act("fell if age>3;sell if soil<2 or wet>7;charge 5 if coin>100;strike years;strike fell;strike borrow;strike sell;strike part;strike charge", 9, -1);
        act("years99", 1, -1);
    }

    private static void wrongLeases() {
        lease("rents 5", 0);
        lease(" Rent 5", 1);
        lease("years 5", 0);
        lease("rent", 4);
        lease("rent ", 5);
        lease("rent x", 5);
        lease("rent 1234567", 5);
        lease("rent 0000001", 5);
        lease("rent -1", 5);
        lease("rent 5 5", 7);
        lease("rent 5;", 7);
        lease("rent 5; ", 8);
        lease(";rent 5", 0);
        lease("rent 5;;rent 5", 7);
        lease("rent 5 rent 5", 7);
        lease("rent 5 if", 9);
        lease("rent 5 of wheat", 7);
        lease("corn 5", 6);
        lease("corn 5 if", 7);
        lease("corn 5 of", 9);
        lease("corn 5 of rye", 10);
        lease("corn 5 of wheat if 1<2", 16);
        lease("bar wheat wheat", 10);
        lease("bar wheat after lime", 16);
        lease("bar 5", 4);
        lease("bar year after wheat", 4);
        lease("owe wood 5", 4);
        lease("owe lime", 8);
        lease("owe lime 5 if 1<2", 11);
        lease("put 5", 5);
        lease("put 5;rent 5", 5);
        lease("put 101 if 1<2", 4);
        lease("put 1000000 if 1<2", 4);
        lease("game 101", 5);
        lease("game 5 if 1<2", 7);
        lease("waste 5 if", 10);
        lease("rent 5\t", 6);
        lease("rent 5.", 6);
        lease("strike rent", 0);
    }

    private static void wrongActs() {
        act("rent 5", 0, 0);
        act("years", 0, 5);
        act("years 5 if 1<2", 0, 8);
        act("fell 5", 0, 5);
        act("fell if", 0, 7);
        act("borrow 5 if 1<2", 0, 9);
        act("part fallow 5", 0, 5);
        act("part wood 101", 0, 10);
        act("part wood", 0, 9);
        act("charge", 0, 6);
        act("charge if 1<2", 0, 7);
        act("strike", 0, 6);
        act("strike strike", 0, 7);
        act("strike rent", 0, 7);
        act("strike years 5", 0, 13);
        act("sell;part land 5;bogus", 0, 17);
        act("yearsx 5", 0, 0);
        act("sellz", 0, 0);
        act("sella", 0, 0);
        act("sell{", 0, 4);
        act("sell`", 0, 4);
        act("years /5", 0, 6);
        act("years 5:", 0, 7);
        act("year 5", 0, 0);
    }

    private static void wrongConditions() {
        act("sell if age", 0, 11);
        act("sell if age>", 0, 12);
        act("sell if age>3+", 0, 14);
        act("sell if age=3", 0, 11);
        act("sell if age>3>4", 0, 13);
        act("sell if age>3 and", 0, 17);
        act("sell if age>3 or;", 0, 16);
        act("sell if and", 0, 8);
        act("sell if fallow>3", 0, 8);
        act("sell if lime>3", 0, 8);
        act("sell if (age>3", 0, 14);
        act("sell if (age>3;sell", 0, 14);
        act("sell if age>3)", 0, 13);
        act("sell if (age)>3", 0, 12);
        act("sell if ()", 0, 9);
        act("sell if not", 0, 11);
        act("sell if not not 3", 0, 17);
        act("sell if 1234567>3", 0, 8);
        act("sell if 3>1234567", 0, 10);
        act("sell if +3>1", 0, 8);
        act("sell if 3 4>1", 0, 10);
        act("sell if 3>4 if 1<2", 0, 12);
        act("sell if coins>3", 0, 8);
        act("sell if(1<2)and(3<4)or not(5<6)", 1, -1);
        act("sell if(1<2)(3<4)", 0, 12);
    }

    private static void depth() {
        act("sell if((((((1<2))))))", 1, -1);
        act("sell if(((((((1<2)))))))", 0, 13);
        act("sell if not not not not not not 1<2", 1, -1);
        act("sell if not not not not not not not 1<2", 0, 32);
        act("sell if not(not(not(1<2)))", 1, -1);
        act("sell if not(not(not((1<2))))", 0, 20);
        act("sell if not 1<2 and not 1<2 and not 1<2 and not 1<2 and not 1<2 and not 1<2 and not 1<2", 1, -1);
        act("sell if(1<2)and(1<2)and(1<2)and(1<2)and(1<2)and(1<2)and(1<2)or(1<2)", 1, -1);
        act("sell if not(1<2)and((((((1<2))))))", 1, -1);
    }


    private static void linesInAText() {
        StringBuilder sixteen = new StringBuilder("sell");
        for (int i = 1; i < 16; i++) {
            sixteen.append(";sell");
        }
        act(sixteen.toString(), 16, -1);
        act(sixteen + ";", 0, 80);
        act(sixteen + "; sell", 0, 81);
        act(sixteen + ";;", 0, 80);
        act(sixteen + " fell", 0, 80);
        StringBuilder full = new StringBuilder("sell if 1");
        while (full.length() < 396) {
            full.append("+1");
        }
        full.append("<999".substring(0, 400 - full.length()));
        act(full.toString(), 1, -1);
    }

    private static void wrongTextsLeaveRoom() {
        GreatEstate x = new GreatEstate();
        String sum = "1+1+1+1+1+1+1+1+1+1+1+1+1+1+1+1+1+1+1+1+1+1+1+1+1+1+1+1+1+1+1+1+1+1+1+1+1+1+1+1+1+1+1";
        for (int i = 0; i < 9; i++) {
            Calls.tape(x, "rent 1 if " + sum + ">" + sum + ">");
            Calls.dueNumber("wrong text " + i, () -> x.let(0, 0, 0, 0, false));
        }
        Calls.due("a right one", Calls.yearly(x, 0, 0, 0, "rent 3 if " + sum + ">42;rent 5 if " + sum + "<43;rent 7 if " + sum + ">999999"), 0);
        Calls.due("its rent", x.rent(0), 3);
    }

    private static void whenATextIsRead() {
        GreatEstate x = new GreatEstate();
        Calls.tape(x, "bogus");
        Calls.dueIndex("let of no field", () -> x.let(48, 0, 0, 0, false));
        Calls.due("the tape is used up", x.end(1), false);
        Calls.due("the text was not read", x.fault(), -1);
        Calls.tape(x, "rent bogus");
        Calls.dueNumber("let with a wrong text", () -> x.let(0, 0, 0, 0, false));
        Calls.due("the text was read", x.fault(), 5);
        Calls.tape(x, "bogus");
        Calls.dueNumber("let of 100 years", () -> x.let(0, 0, 100, 0, false));
        Calls.due("not read", x.fault(), 5);
        Calls.due("used up", x.end(1), false);
        Calls.tape(x, "bogus");
        Calls.dueNumber("words too late", () -> x.words(401));
        Calls.due("not read either", x.fault(), 5);
        Calls.due("used up too", x.end(1), false);
        Calls.tape(x, "rent 5");
        Calls.due("let", x.let(0, 0, 0, 0, false), 0);
        Calls.due("a right text", x.fault(), -1);
        Calls.tape(x, "  bogus");
        Calls.dueNumber("let of a let field", () -> x.let(0, 0, 0, 0, false));
        Calls.due("read ahead of NONE", x.fault(), 2);
    }
}
