/** The sentences of part 2 on THE ESTATE'S WORDS that name an edge, and those of promises 22 and 23. */
public final class EdgesOfWordsTest {
    public static void main(String[] args) {
        twelveTexts();
        nowOrLater();
        orderOfTexts();
        notBehindNow();
        strikes();
        strikesTakeTextsAheadAlone();
        mayLease();
        mayFell();
        mayBorrow();
        maySell();
        parts();
        allIncomeWithout();
        charges();
        whyOfEach();
        mayOfEach();
        mayRefuses();
        whyRefuses();
        Calls.finish();
    }

    private static void twelveTexts() {
        Calls.sentence("THE ESTATE'S WORDS: texts (at most 12)");
        GreatEstate x = new GreatEstate();
        for (int i = 0; i < 12; i++) {
            Calls.words(x, i % 3, "charge 1;years " + i);
            Calls.due("texts", x.count(8), i + 1);
        }
        Calls.tape(x, "charge 1");
        Calls.dueRoom("a 13th", () -> x.words(0));
        x.seasons(2);
        Calls.due("all twelve count", x.may(4, 0), 12);
        Calls.due("the last of the latest season", x.why(0, 0), 16 * 11 + 1);
        Calls.due("lines", x.count(9), 24);
    }

    private static void nowOrLater() {
        Calls.sentence("each from a SEASON on (now or later).");
        GreatEstate x = new GreatEstate();
        x.seasons(2);
        Calls.words(x, 2, "years 1");
        Calls.words(x, 3, "years 2");
        Calls.due("from now on", x.may(0, 0), 1);
        x.seasons(1);
        Calls.due("later", x.may(0, 0), 2);
        Calls.tape(x, "years 3");
        Calls.dueNumber("not ahead of now", () -> x.words(2));
    }

    private static void orderOfTexts() {
        Calls.sentence("IN FORCE: by their SEASON, of one SEASON as they came");
        GreatEstate x = new GreatEstate();
        Calls.words(x, 2, "years 20");
        Calls.words(x, 1, "years 10");
        Calls.words(x, 2, "years 21");
        Calls.words(x, 0, "years 1");
        Calls.words(x, 1, "years 11");
        Calls.due("at 0", x.may(0, 0), 1);
        Calls.due("why at 0", x.why(0, 0), 48);
        x.seasons(1);
        Calls.due("at 1", x.may(0, 0), 11);
        Calls.due("why at 1", x.why(0, 0), 64);
        x.seasons(1);
        Calls.due("at 2", x.may(0, 0), 21);
        Calls.due("why at 2", x.why(0, 0), 32);
        Calls.words(x, 2, "years 22");
        Calls.due("of one season the latest that came", x.may(0, 0), 22);
    }

    private static void notBehindNow() {
        Calls.sentence("the LINES of all those whose SEASON is not behind now");
        GreatEstate x = new GreatEstate();
        Calls.words(x, 3, "sell;charge 5");
        for (int season = 0; season < 5; season++) {
            Calls.due("lines at " + season, x.count(9), season >= 3 ? 2 : 0);
            Calls.due("sell at " + season, x.may(3, 0), season >= 3 ? 1 : 0);
            Calls.due("charge at " + season, x.may(4, 0), season >= 3 ? 5 : 0);
            x.seasons(1);
        }
        Calls.due("it was in force in winter", x.count(16), 5);
    }

    private static void strikes() {
        Calls.sentence("but that a strike LINE takes away all LINES of that WORD in texts ahead of its own.");
        String[] words = {"years", "fell", "borrow", "sell", "part", "charge"};
        for (int struck = 0; struck < 6; struck++) {
            GreatEstate x = new GreatEstate();
            Calls.words(x, 0, "years 1;fell;borrow 1;sell;part lime 1;charge 1");
            Calls.words(x, 0, "years 2;fell;borrow 2;sell;part lime 2;charge 2;part land 7");
            Calls.words(x, 0, "strike " + words[struck]);
            int[] due = {2, 1, 2, 1, 3, 2, 7};
            int[] asked = {0, 1, 2, 3, 4, 5, 9};
            for (int i = 0; i < 7; i++) {
                boolean gone = struck == new int[] {0, 1, 2, 3, 5, 4, 4}[i];
                Calls.due("may " + asked[i] + " behind strike " + words[struck], x.may(asked[i], 0), gone ? 0 : due[i]);
            }
            Calls.due("lines behind strike " + words[struck], x.count(9), 13 + 1 - (struck == 4 ? 3 : 2));
        }
    }

    private static void strikesTakeTextsAheadAlone() {
        Calls.sentence("in texts ahead of its own.");
        GreatEstate x = new GreatEstate();
        Calls.words(x, 0, "years 1");
        Calls.words(x, 0, "years 2;strike years;years 3");
        Calls.due("not those of its own text, ahead or behind", x.may(0, 0), 3);
        Calls.due("lines", x.count(9), 3);
        Calls.words(x, 0, "years 4");
        Calls.due("nor of one behind", x.may(0, 0), 4);
        GreatEstate y = new GreatEstate();
        Calls.words(y, 1, "strike sell");
        Calls.words(y, 0, "sell");
        Calls.words(y, 2, "sell");
        Calls.due("a strike that is not in force", y.may(3, 0), 1);
        y.seasons(1);
        Calls.due("takes a text that came later, of an earlier season", y.may(3, 0), 0);
        Calls.due("why", y.why(3, 0), -1);
        y.seasons(1);
        Calls.due("not one of a later season", y.why(3, 0), 32);
        GreatEstate z = new GreatEstate();
        Calls.words(z, 0, "strike sell;sell");
        Calls.due("a strike with nothing ahead", z.may(3, 0), 1);
        Calls.due("its lines", z.count(9), 2);
        Calls.words(z, 0, "strike sell");
        Calls.words(z, 0, "strike sell");
        Calls.due("strike lines themselves are in force", z.count(9), 3);
    }

    private static void mayLease() {
        Calls.sentence("MAY LEASE for so many YEARS: not above the last years LINE in force (none: no FARM may be let).");
        GreatEstate x = new GreatEstate();
        Calls.due("none: not for 1", x.let(0, 0, 1, 0, false), -1);
        Calls.words(x, 0, "years 99;years 2");
        Calls.due("not for 3", x.let(0, 0, 3, 0, false), -1);
        Calls.due("for 2", x.let(0, 0, 2, 0, false), 0);
        Calls.words(x, 0, "years 0");
        Calls.due("years 0: not for 1", x.let(1, 1, 1, 0, false), -1);
        Calls.due("a yearly one is no farm", x.let(1, 1, 0, 0, false), 1);
        Calls.words(x, 0, "strike years");
        Calls.due("struck: not for 1", x.let(2, 2, 1, 0, false), -1);
        Calls.words(x, 0, "years 999999");
        Calls.due("for 99", x.let(2, 2, 99, 0, false), 2);
        Calls.due("nothing was wrong", x.count(13), 0);
    }

    private static void mayFell() {
        Calls.sentence("MAY FELL a FIELD: if some fell LINE in force holds.");
        GreatEstate x = new GreatEstate();
        x.field(0, 5, 0, 0, 0, 10);
        x.keep(0, 0, 3, 0, 0);
        Calls.due("none in force", x.cut(0, false), -1);
        Calls.words(x, 0, "fell if age<10;fell if age>10");
        Calls.due("none holds", x.cut(0, false), -1);
        Calls.words(x, 1, "fell");
        Calls.due("not in force yet", x.cut(0, false), -1);
        Calls.words(x, 0, "fell if age>99;fell if age>9;fell if age>98");
        Calls.due("some holds", x.cut(0, false), 100);
        Calls.due("nothing was wrong", x.count(13), 0);
    }

    private static void mayBorrow() {
        Calls.sentence("MAY BORROW: if all that is owed on LOANS and this are not above the last borrow LINE (0 without).");
        GreatEstate x = new GreatEstate();
        Calls.due("0 without", x.loan(1, 0, 1, false), -1);
        Calls.words(x, 0, "borrow 900;borrow 10");
        Calls.due("11", x.loan(11, 0, 1, false), -1);
        Calls.due("4", x.loan(4, 0, 1, false), 0);
        Calls.due("4 and 7", x.loan(7, 0, 1, false), -1);
        Calls.due("4 and 6", x.loan(6, 0, 2, false), 1);
        Calls.due("10 and 1", x.loan(1, 0, 1, false), -1);
        x.seasons(4);
        Calls.due("3 are owed still: 8", x.loan(8, 0, 1, false), -1);
        Calls.due("7", x.loan(7, 0, 1, false), 2);
        Calls.words(x, 4, "strike borrow");
        Calls.due("struck", x.loan(1, 0, 1, false), -1);
        Calls.words(x, 4, "borrow 999999");
        Calls.due("the most", x.loan(100000, 0, 40, false), 3);
        Calls.due("nothing was wrong", x.count(13), 0);
    }

    private static void maySell() {
        Calls.sentence("MAY SELL a FIELD: if some sell LINE in force holds.");
        GreatEstate x = new GreatEstate();
        Calls.due("none in force", x.sell(0, false), -1);
        Calls.words(x, 0, "sell if soil<5;sell if soil>5");
        Calls.due("none holds", x.sell(0, false), -1);
        Calls.words(x, 1, "sell");
        Calls.due("not in force yet", x.sell(0, false), -1);
        Calls.words(x, 0, "sell if soil>9;sell if soil>4");
        Calls.due("some holds", x.sell(0, false), 200);
        Calls.due("nothing was wrong", x.count(13), 0);
    }

    private static void parts() {
        Calls.sentence("PART of a THING: the last such LINE in force: so many hundredths of what comes of it (rounded down) are CAPITAL, the rest INCOME");
        int[] parts = {0, 1, 33, 50, 99, 100};
        for (int part : parts) {
            GreatEstate x = new GreatEstate();
            Calls.words(x, 0, "part wood 77;part wood " + part + ";part land 1;part mine 2;fell");
            x.field(0, 5, 0, 0, 0, 19);
            x.keep(0, 0, 3, 0, 0);
            Calls.due("cut", x.cut(0, false), 361);
            Calls.due("capital by " + part, x.count(3), 361 * part / 100);
            Calls.due("income by " + part, x.count(2), 361 - 361 * part / 100);
        }
        GreatEstate y = new GreatEstate();
        Calls.words(y, 0, "part mine 100;part land 0;part wood 0");
        y.keep(0, 0, 4, 1, 99);
        y.seasons(4);
        Calls.due("of a mine", y.count(3), 99);
        Calls.due("nothing is left", y.count(2), 0);
        GreatEstate z = new GreatEstate();
        Calls.words(z, 0, "part mine 1");
        z.keep(0, 0, 4, 1, 99);
        z.seasons(4);
        Calls.due("99 hundredths, rounded down", z.count(3), 0);
        Calls.due("all the rest", z.count(2), 99);
    }

    private static void allIncomeWithout() {
        Calls.sentence("(all INCOME without).");
        GreatEstate x = new GreatEstate();
        x.field(0, 5, 0, 0, 0, 19);
        x.keep(0, 0, 3, 0, 0);
        x.keep(1, 1, 4, 1, 7);
        x.cut(0, true);
        Calls.due("no capital by wood", x.count(3), 0);
        Calls.due("income by wood", x.count(2), 361);
        x.sell(47, true);
        Calls.due("no capital by land", x.count(3), 0);
        Calls.due("income by land", x.count(2), 561);
        x.seasons(4);
        Calls.due("no capital by a mine", x.count(3), 0);
        Calls.due("income by a mine", x.count(2), 568);
        x.work(2, true);
        Calls.due("lime of income", x.count(2), 560);
        x.work(2, false);
        Calls.due("drain of income", x.count(2), 530);
    }

    private static void charges() {
        Calls.sentence("CHARGES of a YEAR: the sum of all charge LINES in force that hold.");
        GreatEstate x = new GreatEstate();
        Calls.due("none", x.may(4, 0), 0);
        Calls.words(x, 0, "charge 1;charge 20 if year<1;charge 300 if year>0;charge 0");
        Calls.words(x, 0, "charge 4000;charge 50000 if 2<1");
        Calls.words(x, 4, "charge 600000");
        Calls.due("of year 0", x.may(4, 0), 4021);
        x.seasons(4);
        Calls.due("paid", x.count(16), 4021);
        Calls.due("of income", x.count(2), -4021);
        Calls.due("of year 1", x.may(4, 0), 604301);
        StringBuilder most = new StringBuilder("charge 999999");
        for (int i = 1; i < 16; i++) {
            most.append(";charge 999999");
        }
        GreatEstate y = new GreatEstate();
        for (int i = 0; i < 12; i++) {
            Calls.words(y, 0, most.toString());
        }
        Calls.due("the most of all", y.may(4, 0), 12 * 16 * 999999);
    }

    private static void whyOfEach() {
        Calls.sentence("WHY: which text and LINE (the first that holds, of fell, sell, charge; the last, of years, borrow).");
        GreatEstate x = new GreatEstate();
        Calls.words(x, 0, "years 1;borrow 1;fell if 2<1;sell if 2<1;charge 1 if 2<1");
        Calls.words(x, 0, "charge 0;fell;sell;years 2;borrow 0;charge 5;fell;sell");
        Calls.words(x, 0, "fell;sell;charge 7;years 0;years 3;borrow 5;fell if 2<1");
        int[] why = {32 + 4, 16 + 1, 32 + 5, 16 + 2, 16};
        for (int what = 0; what < 5; what++) {
            Calls.due("why " + what, x.why(what, 0), why[what]);
        }
        StringBuilder sixteen = new StringBuilder("years 1");
        for (int i = 1; i < 16; i++) {
            sixteen.append(";years 1");
        }
        Calls.words(x, 0, sixteen.toString());
        Calls.due("the 16th line", x.why(0, 0), 48 + 15);
    }

    private static void mayOfEach() {
        Calls.sentence("What the WORDS in force let: what 0 the most YEARS of a FARM (0 without)");
        GreatEstate x = new GreatEstate();
        Calls.due("without", x.may(0, 0), 0);
        Calls.words(x, 0, "years 999999");
        Calls.due("more than one may ask", x.may(0, 0), 999999);
        Calls.sentence("5 to 9 PART of lime, drain, wood, mine, land (0 without).");
        String[] things = {"lime", "drain", "wood", "mine", "land"};
        for (int i = 0; i < 5; i++) {
            GreatEstate y = new GreatEstate();
            Calls.due("without", y.may(5 + i, 0), 0);
            Calls.words(y, 0, "part " + things[i] + " 100");
            for (int other = 0; other < 5; other++) {
                Calls.due("part " + things[other] + " by " + things[i], y.may(5 + other, 0), other == i ? 100 : 0);
            }
        }
        Calls.sentence("(The FIELD counts for 1 and 3.)");
        GreatEstate z = new GreatEstate();
        Calls.words(z, 0, "years 4;fell if soil>5;sell if soil<5;borrow 9;charge 3;part land 8");
        z.field(1, 9, 0, 0, 0, 0);
        z.field(2, 1, 0, 0, 0, 0);
        int[][] due = {{4, 0, 9, 0, 3, 0, 0, 0, 0, 8}, {4, 1, 9, 0, 3, 0, 0, 0, 0, 8}, {4, 0, 9, 1, 3, 0, 0, 0, 0, 8}};
        for (int field = 0; field < 3; field++) {
            for (int what = 0; what < 10; what++) {
                Calls.due("may " + what + " of " + field, z.may(what, field), due[field][what]);
            }
        }
        z.sell(2, false);
        Calls.due("the words let a sold one still", z.may(3, 2), 1);
    }

    private static void mayRefuses() {
        Calls.sentence("(The FIELD counts for 1 and 3.) NoSuchElementException: another what.");
        GreatEstate x = new GreatEstate();
        for (int what : new int[] {-1, 10, Integer.MIN_VALUE, Integer.MAX_VALUE}) {
            Calls.dueNoSuch("may " + what, () -> x.may(what, 0));
            Calls.dueIndex("may " + what + " of no field", () -> x.may(what, 48));
        }
        for (int what = 0; what < 10; what++) {
            int w = what;
            Calls.dueIndex("of no field, though it does not count, " + w, () -> x.may(w, -1));
            Calls.due("of the last field", x.may(w, 47), 0);
        }
    }

    private static void whyRefuses() {
        Calls.sentence("16 times the text (from 0 on, as they came) and the LINE; NONE. NoSuchElementException: another what.");
        GreatEstate x = new GreatEstate();
        for (int what = 0; what < 5; what++) {
            int w = what;
            Calls.due("none", x.why(w, 47), -1);
            Calls.dueIndex("of no field", () -> x.why(w, 48));
            Calls.dueIndex("of no field", () -> x.why(w, -1));
        }
        for (int what : new int[] {-1, 5, Integer.MIN_VALUE, Integer.MAX_VALUE}) {
            Calls.dueNoSuch("why " + what, () -> x.why(what, 0));
            Calls.dueIndex("why " + what + " of no field", () -> x.why(what, 48));
        }
        Calls.words(x, 2, "sell");
        Calls.words(x, 1, "sell if 2<1;sell");
        Calls.due("none yet", x.why(3, 0), -1);
        x.seasons(1);
        Calls.due("as they came", x.why(3, 0), 17);
        x.seasons(1);
        Calls.due("the first in force", x.why(3, 0), 17);
    }
}
