/**
 * The sentences of part 2 on TEXTS that name an edge, and those of promises 20 and 21; each has a test of its own.
 * In a wrong text ^ stands ahead of its first wrong byte, and is not of the text itself.
 */
public final class EdgesOfTextsTest {
    public static void main(String[] args) {
        sixteenLines();
        seventeenthLine();
        leaseLines();
        estateLines();
        cropsAndThings();
        wordsOfStrike();
        conditions();
        sums();
        facts();
        digits();
        bounds();
        depth();
        wordsAsLongAsLetters();
        blanks();
        emptyTexts();
        firstWrongByte();
        textsLength();
        bytesThatAreNone();
        longestText();
        factsOfAField();
        factsOfATenant();
        factsOfTheEstate();
        wordsRefuse();
        faultOfTheLatest();
        Calls.finish();
    }

    private static void lease(String marked) {
        String text = marked.replace("^", "");
        GreatEstate x = new GreatEstate();
        Calls.tape(x, text);
        boolean wrong = marked.indexOf('^') >= 0;
        String got = Calls.outcome(() -> x.let(0, 0, 0, 0, false));
        Calls.dueSame("lease '" + marked + "'", got, wrong ? "IllegalArgumentException" : "0");
        Calls.due("fault of lease '" + marked + "'", x.fault(), marked.indexOf('^'));
        Calls.due("the tape of lease '" + marked + "' is used up", x.end(1), false);
        Calls.due("holdings by lease '" + marked + "'", x.count(4), wrong ? 0 : 1);
    }

    private static void act(String marked) {
        String text = marked.replace("^", "");
        GreatEstate x = new GreatEstate();
        Calls.tape(x, text);
        boolean wrong = marked.indexOf('^') >= 0;
        String lines = String.valueOf(text.isBlank() ? 0 : text.split(";", -1).length);
        String got = Calls.outcome(() -> x.words(0));
        Calls.dueSame("act '" + marked + "'", got, wrong ? "IllegalArgumentException" : lines);
        Calls.due("fault of act '" + marked + "'", x.fault(), marked.indexOf('^'));
        Calls.due("the tape of act '" + marked + "' is used up", x.end(1), false);
        Calls.due("texts by act '" + marked + "'", x.count(8), wrong ? 0 : 1);
    }

    private static String joined(String line, int n) {
        StringBuilder s = new StringBuilder(line);
        for (int i = 1; i < n; i++) {
            s.append(';').append(line);
        }
        return s.toString();
    }

    private static boolean holds(String condition) {
        GreatEstate x = new GreatEstate();
        Calls.words(x, 0, "sell if " + condition);
        return x.may(3, 0) == 1;
    }

    private static void sixteenLines() {
        Calls.sentence("TEXTS: LINE { ; LINE }, at most 16.");
        for (int n = 1; n <= 16; n++) {
            lease(joined("rent 1", n));
            act(joined("sell", n));
        }
        GreatEstate x = new GreatEstate();
        Calls.yearly(x, 0, 0, 0, joined("rent 1", 16));
        Calls.due("all sixteen count", x.rent(0), 16);
        Calls.words(x, 0, joined("charge 1", 16));
        Calls.due("all sixteen count", x.may(4, 0), 16);
        Calls.due("lines in force", x.count(9), 16);
        lease("rent 1;^;rent 1");
        lease("^;rent 1");
        act("sell ^sell");
        act("sell ^.sell");
    }

    private static void seventeenthLine() {
        Calls.sentence("of a 17th LINE its first word)");
        lease(joined("rent 1", 16) + ";^rent 1");
        lease(joined("rent 1", 16) + "  ;  ^rent bogus");
        lease(joined("rent 1", 16) + ";^bogus");
        act(joined("sell", 16) + ";^sell");
        act(joined("sell", 16) + ";^sell;sell");
        act(joined("sell", 16) + ";^");
        act(joined("sell", 16) + " ;   ^");
        act(joined("sell", 15) + ";^bogus;sell");
    }

    private static void leaseLines() {
        Calls.sentence("Of a LEASE: rent NUMBER [ if C ] | corn NUMBER of CROP | bar CROP after CROP | owe THING NUMBER | waste NUMBER [ if C ] | put NUMBER if C | game NUMBER.");
        lease("rent 5");
        lease("rent 5 if 1<2");
        lease("rent ^if 1<2");
        lease("rent 5 ^rent 5");
        lease("corn 5 of wheat");
        lease("corn ^wheat");
        lease("corn 5 ^wheat");
        lease("corn 5 of ^5");
        lease("corn 5 of wheat ^if 1<2");
        lease("bar wheat after barley");
        lease("bar ^5");
        lease("bar wheat ^barley");
        lease("bar wheat after ^after");
        lease("bar wheat after barley ^if 1<2");
        lease("owe lime 5");
        lease("owe drain 5");
        lease("owe ^5 lime");
        lease("owe lime ^drain");
        lease("owe lime 5 ^if 1<2");
        lease("waste 5");
        lease("waste 5 if 1<2");
        lease("waste ^lime");
        lease("put 5 if 1<2");
        lease("put 5^");
        lease("put 5 ^;rent 1");
        lease("put ^if 1<2");
        lease("game 5");
        lease("game 5 ^if 1<2");
        for (String word : new String[] {"years", "fell", "borrow", "sell", "part", "charge", "strike"}) {
            lease("^" + word + " 5");
        }
    }

    private static void estateLines() {
        Calls.sentence("Of the ESTATE (settlement, acts): years NUMBER | fell [ if C ] | borrow NUMBER | sell [ if C ] | part THING NUMBER | charge NUMBER [ if C ] | strike WORD.");
        act("years 5");
        act("years ^if 1<2");
        act("years 5 ^if 1<2");
        act("fell");
        act("fell if 1<2");
        act("fell ^5");
        act("borrow 5");
        act("borrow 5 ^if 1<2");
        act("borrow ^sell");
        act("sell");
        act("sell if 1<2");
        act("sell ^land");
        act("part land 5");
        act("part ^5");
        act("part land ^;sell");
        act("part land 5 ^if 1<2");
        act("charge 5");
        act("charge 5 if 1<2");
        act("charge ^if 1<2");
        act("strike sell");
        act("strike ^5");
        act("strike sell ^if 1<2");
        for (String word : new String[] {"rent", "corn", "bar", "owe", "waste", "put", "game"}) {
            act("^" + word + " 5");
        }
    }

    private static void cropsAndThings() {
        Calls.sentence("CROP: wheat, barley, turnips, grass, fallow.");
        for (String crop : new String[] {"wheat", "barley", "turnips", "grass", "fallow"}) {
            lease("corn 1 of " + crop + ";bar " + crop + " after " + crop);
        }
        for (String none : new String[] {"none", "turnip", "lime", "wood", "year", "age", "of", "oats"}) {
            lease("corn 1 of ^" + none);
            lease("bar ^" + none + " after wheat");
            lease("bar wheat after ^" + none);
        }
        Calls.sentence("THING: lime, drain, and (of part alone) wood, mine, land.");
        for (String thing : new String[] {"lime", "drain"}) {
            lease("owe " + thing + " 1");
            act("part " + thing + " 1");
        }
        for (String thing : new String[] {"wood", "mine", "land"}) {
            lease("owe ^" + thing + " 1");
            act("part " + thing + " 1");
        }
        act("part ^wheat 1");
        act("part ^years 1");
        act("part ^game 1");
        lease("owe ^game 1");
    }

    private static void wordsOfStrike() {
        Calls.sentence("WORD (of strike): years, fell, borrow, sell, part, charge.");
        for (String word : new String[] {"years", "fell", "borrow", "sell", "part", "charge"}) {
            act("strike " + word);
        }
        for (String none : new String[] {"strike", "rent", "lime", "land", "year", "if", "all"}) {
            act("strike ^" + none);
        }
    }

    private static void conditions() {
        Calls.sentence("C: ALL { or ALL }; ALL: ATOM { and ATOM }; ATOM: not ATOM | ( C ) | SUM < SUM | SUM > SUM.");
        Calls.due("less", holds("1<2"), true);
        Calls.due("less, the same", holds("2<2"), false);
        Calls.due("more", holds("3>2"), true);
        Calls.due("more, the same", holds("2>2"), false);
        Calls.due("and binds more than or", holds("1<2 or 1<2 and 2<1"), true);
        Calls.due("also ahead", holds("2<1 and 1<2 or 1<2"), true);
        Calls.due("brackets bind more", holds("(1<2 or 1<2) and 2<1"), false);
        Calls.due("not binds one atom alone", holds("not 2<1 and 1<2"), true);
        Calls.due("not of the first alone", holds("not 1<2 or 1<2"), true);
        Calls.due("not of brackets", holds("not (1<2 or 1<2)"), false);
        Calls.due("not not", holds("not not 1<2"), true);
        act("sell if ^");
        act("sell if ^or");
        act("sell if 1<2 or ^");
        act("sell if 1<2 and ^");
        act("sell if 1<2 and ^or 1<2");
        act("sell if not ^");
        act("sell if not ^and 1<2");
        act("sell if ( ^)");
        act("sell if (1<2^");
        act("sell if (1<2 ^;sell");
        act("sell if 1<2 ^)");
        act("sell if 1^");
        act("sell if 1 ^and 1<2");
        act("sell if 1 ^= 2");
        act("sell if 1<^");
        act("sell if 1<^<2");
        act("sell if 1<2 ^<3");
        act("sell if (1 ^) < 2");
        act("sell if ^if 1<2");
        act("sell if 1<2 ^not 1<2");
        act("sell if 1<2 ^(1<2)");
    }

    private static void sums() {
        Calls.sentence("SUM: PART { + PART }; PART: NUMBER | FACT.");
        Calls.due("many parts", holds("1+1+1+1+1+1>5"), true);
        Calls.due("not above", holds("1+1+1+1+1>5"), false);
        Calls.due("great ones", holds("999999+999999+999999>999999+999999+999998"), true);
        Calls.due("on both sides", holds("wheat+1<6+6"), true);
        act("sell if 1+^");
        act("sell if 1+^+2<3");
        act("sell if ^+1<2");
        act("sell if 1 ^1<2");
        act("sell if 1<2+^;sell");
        act("sell if ^-1<2");
        act("sell if 1 ^- 1<2");
        act("sell if 1+^(1)<2");
    }

    private static void facts() {
        Calls.sentence("FACT: year, wheat, barley, turnips, grass (their PRICES of this YEAR), age, worn, wet, soil, coin, arrears.");
        for (String fact : new String[] {"year", "wheat", "barley", "turnips", "grass", "age", "worn", "wet", "soil", "coin", "arrears"}) {
            act("sell if " + fact + "<1");
            lease("rent 1 if 1<" + fact);
        }
        for (String none : new String[] {"years", "fallow", "lime", "game", "put", "sunk", "price", "income"}) {
            act("sell if ^" + none + "<1");
            act("sell if 1<^" + none);
        }
        GreatEstate x = new GreatEstate();
        Calls.words(x, 0, "sell if year>0 and year<2 and wheat>11 and wheat<13 and barley<1 and turnips>99 and grass>9 and grass<11");
        x.price(1, 1, 12);
        x.price(2, 1, 0);
        x.price(3, 1, 100);
        Calls.due("not of year 0", x.may(3, 0), 0);
        x.seasons(4);
        Calls.due("of this year", x.may(3, 0), 1);
        x.price(4, 1, 9);
        Calls.due("as known now", x.may(3, 0), 0);
    }

    private static void digits() {
        Calls.sentence("NUMBER: 1 to 6 digits;");
        lease("rent 0");
        lease("rent 999999");
        lease("rent 000000");
        lease("rent ^0000000");
        lease("rent ^1000000");
        lease("rent ^99999999999999999999");
        lease("rent 1 if 1<^1000000");
        lease("rent 1 if ^0000001<1");
        lease("rent ^");
        act("years 999999");
        act("borrow ^1000000");
        act("charge ^9999999 if 1<2");
        GreatEstate x = new GreatEstate();
        Calls.yearly(x, 0, 0, 0, "rent 000012;rent 999999");
        Calls.due("ahead noughts count nothing", x.rent(0), 12 + 999999);
        lease("rent 12 ^3");
        lease("rent ^-1");
    }

    private static void bounds() {
        Calls.sentence("of part, put, game 0 to 100.");
        act("part lime 0;part drain 100;part wood 000100");
        act("part mine ^101");
        act("part land ^999999");
        act("part land ^1000000");
        lease("put 0 if 1<2;put 100 if 1<2");
        lease("put ^101 if 1<2");
        lease("game 0;game 100");
        lease("game ^101");
        lease("game ^0000100");
        lease("rent 101;waste 101;owe lime 101;corn 101 of wheat;put 1 if 101<102");
        act("years 101;borrow 101;charge 101");
    }

    private static String deep(String open, int n, String close) {
        return open.repeat(n) + "1<2" + close.repeat(n);
    }

    private static void depth() {
        Calls.sentence("( and not within one another at most 6 deep.");
        act("sell if " + deep("(", 6, ")"));
        act("sell if " + deep("not ", 6, ""));
        act("sell if (not (not (not 1<2)))");
        act("sell if " + deep("(", 6, ")") + " and " + deep("(", 6, ")") + " or " + deep("not ", 6, ""));
        act("sell if (1<2) and (1<2) and (1<2) and (1<2) and (1<2) and (1<2) and (1<2) and (1<2)");
        act("sell if not 1<2 and not 1<2 and not 1<2 and not 1<2 and not 1<2 and not 1<2 and not 1<2");
        Calls.due("six brackets hold", holds(deep("(", 6, ")")), true);
        Calls.due("six nots hold", holds(deep("not ", 6, "")), true);
        Calls.due("five nots do not", holds(deep("not ", 5, "")), false);
        Calls.sentence("the ( or not that is a 7th one deep;");
        act("sell if " + "(".repeat(6) + "^" + "(1<2" + ")".repeat(7));
        act("sell if " + "not ".repeat(6) + "^" + "not 1<2");
        act("sell if (not (not (not ^(1<2))))");
        act("sell if (not (not (not ^not 1<2)))");
        act("sell if ((((((1<2 and ^(1<2)))))))");
        act("sell if ((((((1<2 or ^not 1<2))))))");
        act("sell if ((((((1<2)))))) and ((((((^(");
        lease("rent 1 if ((((((^(1<2)))))))");
    }

    private static void wordsAsLongAsLetters() {
        Calls.sentence("Words are as long as a to z go on;");
        lease("rent5if1<2and2<3or not(1<2)");
        lease("^rents 5");
        lease("^ren 5");
        lease("^rentz 5");
        lease("^zrent 5");
        lease("^renta 5");
        lease("^re nt 5");
        lease("^rentif 5");
        lease("^Rent 5");
        lease("rent 5 ^iff 1<2");
        lease("rent 5 ^i 1<2");
        lease("rent 5 if 1<2 ^andnot 1<2");
        lease("rent 5 if ^notnot 1<2");
        lease("corn 5 ^ofwheat");
        lease("corn 5of wheat");
        lease("rent 5 if ^wheatbarley>1");
        act("^sellif 1<2");
        act("sell if(1<2)");
        act("part^_land 5");
    }

    private static void blanks() {
        Calls.sentence("between all there may be blanks (32), also ahead and behind.");
        lease("   rent   5   if   (   1   <   2   )   and   not   1   >   2   ;   game   5   ");
        lease("rent 5;game 5");
        lease("rent5;game5");
        lease("rent ^\t5");
        lease("rent 5^\n");
        lease("^\0rent 5");
        lease("rent 5 ^\0");
        lease("   rent   5   if   (   ^bogus");
        lease("rent 1 ^2");
        act("   sell   ");
    }

    private static void emptyTexts() {
        Calls.sentence("A text that is empty, or blanks alone, has no LINE.");
        lease("");
        lease(" ");
        lease(" ".repeat(400));
        act("");
        act(" ");
        act(" ".repeat(400));
        GreatEstate x = new GreatEstate();
        Calls.due("no line", Calls.words(x, 0, ""), 0);
        Calls.due("none in force", x.count(9), 0);
        Calls.due("but a text", x.count(8), 1);
        Calls.due("a lease without words", Calls.yearly(x, 0, 0, 0, "  "), 0);
        Calls.due("asks nothing", x.rent(0), 0);
    }

    private static void firstWrongByte() {
        Calls.sentence("The first wrong byte: the begin of the first thing that cannot stand there (a NUMBER of more digits, or out of its bounds; a word that is none there;");
        lease("rent 5;rent ^1234567;bogus");
        lease("rent 5;put ^101 if bogus");
        lease("rent 5; ^bogus 5");
        lease("rent 5 ^bogus;rent");
        lease("rent 5 if 1<2 and ^bogus<2");
        lease("rent 5 ^of wheat");
        lease("rent 5 ^5");
        lease("rent 5 ^%");
        lease("rent ^+5");
        act("years 5;sell if 1<2 ^fell");
        act("years 5;^rent 5");
    }

    private static void textsLength() {
        Calls.sentence("or the text's length, if more must come.");
        lease("rent^");
        lease("rent   ^");
        lease("corn 5^");
        lease("corn 5 of^");
        lease("bar^");
        lease("bar wheat^");
        lease("bar wheat after^");
        lease("owe^");
        lease("owe lime^");
        lease("waste^");
        lease("waste 1 if^");
        lease("put 1 if 1<2 and^");
        lease("game^");
        lease("rent 5;^");
        lease("rent 5;     ^");
        act("years^");
        act("part^");
        act("part land^");
        act("strike^");
        act("charge^");
        act("sell;^");
        act("sell if (1<2     ^");
        act(joined("sell", 3) + " ;" + " ".repeat(384) + "^");
    }

    private static void bytesThatAreNone() {
        Calls.sentence("Twenty bytes come behind the TAPE, of each number the highest first");
        for (int sign : new int[] {0, 1, 9, 10, 31, 33, 47, 58, 64, 96, 123, 127, 128, 160, 200, 255}) {
            lease("rent 1;^" + (char) sign + "rent 1");
            lease("rent ^" + (char) sign + "1");
            act("sell ^" + (char) sign);
        }
    }

    private static void longestText() {
        Calls.sentence("NONE, and none come, if it would have more than 400.");
        StringBuilder s = new StringBuilder("rent 7 if 1");
        while (s.length() + 4 <= 398) {
            s.append("+1");
        }
        int parts = (s.length() - "rent 7 if ".length() + 1) / 2;
        GreatEstate x = new GreatEstate();
        Calls.yearly(x, 0, 0, 0, s + ">" + (parts - 1));
        Calls.due("of 400 bytes or so", x.rent(0), 7);
        Calls.yearly(x, 1, 1, 0, s + ">" + parts);
        Calls.due("not above", x.rent(1), 0);
        lease(" ".repeat(394) + "rent 1");
        lease(" ".repeat(395) + "rent ^");
        act(" ".repeat(396) + "sell");
        act(" ".repeat(399) + "^x");
    }

    private static void factsOfAField() {
        Calls.sentence("of a FIELD (fell, sell, waste) age, worn, wet, soil are its own, else 0;");
        String all = "age>2 and age<4 and worn>3 and worn<5 and wet>4 and wet<6 and soil>5 and soil<7";
        GreatEstate x = new GreatEstate();
        x.field(9, 6, 5, 4, 0, 3);
        Calls.words(x, 0, "fell if " + all + ";sell if " + all);
        Calls.due("fell", x.may(1, 9), 1);
        Calls.due("sell", x.may(3, 9), 1);
        Calls.due("fell of another", x.may(1, 10), 0);
        Calls.due("sell of another", x.may(3, 10), 0);
        Calls.words(x, 0, "charge 3 if age+worn+wet+soil<1;charge 50 if age+worn+wet+soil>0");
        Calls.due("none of a charge", x.may(4, 9), 3);
        Calls.words(x, 0, "charge 7 if 1<age+2 and 1<worn+2 and 1<wet+2 and 1<soil+2");
        Calls.due("they are 0, not less", x.may(4, 9), 10);
        x.keep(0, 0, 5, 1000, 0);
        x.seasons(3);
        x.work(9, true);
        Calls.yearly(x, 9, 10, 9999, "owe lime 100;waste 7 if " + all + ";waste 1 if soil<6");
        Calls.due("waste of each by its own", x.owed(1), 600 - 7 - 1);
        Calls.yearly(x, 17, 17, 9999, "rent 3 if age+worn+wet+soil<1;rent 50 if age+worn+wet+soil>0;put 50 if age+worn+wet+soil>0");
        Calls.due("none of a rent", x.rent(2), 3);
        x.seasons(4);
        Calls.due("none of a put", x.led(2, 4), 0);
        Calls.due("3 paid", x.led(2, 7), 3);
    }

    private static void factsOfATenant() {
        Calls.sentence("coin, arrears are the TENANT's (of a LEASE)");
        GreatEstate x = new GreatEstate();
        x.field(0, 0, 9, 20, 0, 0);
        Calls.yearly(x, 0, 0, 5, "rent 7;rent 100 if arrears>1;rent 1000 if coin>5;put 50 if arrears>1");
        x.keep(40, 40, 5, 1000, 0);
        Calls.due("coin 5 is not above 5", x.rent(0), 7);
        x.seasons(3);
        Calls.due("arrears", x.led(0, 3), 2);
        Calls.due("arrears of 2 are above 1", x.rent(0), 107);
        Calls.due("the income is not its coin", x.count(2), 1005);
        x.seasons(4);
        Calls.due("put off by arrears", x.led(0, 4), 53);
        GreatEstate y = new GreatEstate();
        y.field(0, 0, 9, 20, 0, 0);
        Calls.yearly(y, 0, 0, 6, "waste 10 if coin>5;waste 3 if arrears>0;owe lime 5");
        y.keep(1, 1, 5, 1000, 0);
        Calls.yearly(y, 2, 2, 0, "");
        y.seasons(3);
        y.work(0, true);
        Calls.due("another one's rent", y.rent(2), 0);
        Calls.due("waste by its own coin", y.owed(0), 20);
        y.price(1, 1, 0);
        Calls.yearly(y, 3, 3, 0, "owe lime 5;waste 10 if coin>0");
        Calls.due("waste of another", y.owed(3), 0);
        y.work(3, true);
        Calls.due("the first one's, which has coin", y.owed(0), 20);
        Calls.due("not by the first one's coin", y.owed(3), 30);
    }

    private static void factsOfTheEstate() {
        Calls.sentence("else coin the INCOME, arrears 0.");
        GreatEstate x = new GreatEstate();
        x.field(0, 0, 9, 20, 0, 0);
        Calls.yearly(x, 0, 0, 0, "rent 500");
        x.keep(40, 40, 5, 9, 0);
        Calls.words(x, 0, "sell if coin>8;sell if arrears>0;fell if coin<9;charge 4 if coin>8;charge 1 if arrears<1");
        x.loan(1000, 0, 40, true);
        Calls.due("capital is not coin", x.may(3, 0), 0);
        Calls.due("fell at 0", x.may(1, 0), 1);
        Calls.due("charge at 0", x.may(4, 0), 1);
        x.seasons(3);
        Calls.due("arrears are there", x.led(0, 3), 500);
        Calls.due("income is 9", x.why(3, 0), 0);
        Calls.due("fell at 9", x.may(1, 0), 0);
        Calls.due("charge at 9", x.may(4, 0), 5);
        Calls.due("a tenant's rent, without coin", x.rent(0), 500);
        Calls.due("why by the income, not by its coin", x.why(4, 0), 3);
        Calls.due("may by the income, not by its coin", x.rent(0) + x.may(4, 0), 505);
        Calls.words(x, 3, "charge 9 if 1<arrears+2");
        Calls.due("arrears are 0, not less", x.may(4, 0), 14);
    }

    private static void wordsRefuse() {
        Calls.sentence("a text of THE ESTATE'S WORDS from a SEASON on: how many LINES.");
        GreatEstate x = new GreatEstate();
        Calls.due("none", Calls.words(x, 400, ""), 0);
        Calls.due("one", Calls.words(x, 0, "sell"), 1);
        Calls.due("sixteen", Calls.words(x, 5, joined("fell", 16)), 16);
        Calls.due("struck lines count as well", Calls.words(x, 0, "strike sell;years 1;years 2"), 3);
        Calls.sentence("IllegalArgumentException: the SEASON is not now to 400, then: the text is wrong;");
        x.seasons(5);
        for (int season : new int[] {4, 0, -1, 401, Integer.MIN_VALUE, Integer.MAX_VALUE}) {
            Calls.tape(x, "sell");
            Calls.dueNumber("from " + season, () -> x.words(season));
            Calls.due("the tape is used up", x.end(1), false);
        }
        Calls.due("none came", x.count(8), 4);
        Calls.due("from now on", Calls.words(x, 5, "sell"), 1);
        Calls.due("from 400 on", Calls.words(x, 400, "sell"), 1);
        Calls.tape(x, "sell bogus");
        Calls.dueNumber("both are wrong", () -> x.words(4));
        Calls.due("the season is told first: the text is not read", x.fault(), -1);
        Calls.tape(x, "sell bogus");
        Calls.dueNumber("a wrong text", () -> x.words(400));
        Calls.due("its place", x.fault(), 5);
        Calls.due("none came still", x.count(8), 6);
        GreatEstate z = new GreatEstate();
        for (int i = 0; i < 10; i++) {
            z.seasons(40);
        }
        Calls.due("at the last season", Calls.words(z, 400, "sell"), 1);
        Calls.due("in force at once", z.may(3, 0), 1);
        Calls.sentence("UnsupportedOperationException: there are 12.");
        GreatEstate y = new GreatEstate();
        for (int i = 0; i < 12; i++) {
            Calls.words(y, 0, "years " + i);
        }
        Calls.tape(y, "years 99");
        Calls.dueRoom("a 13th", () -> y.words(0));
        Calls.due("the tape is used up", y.end(1), false);
        Calls.due("the 12th stays", y.may(0, 0), 11);
        Calls.due("so many", y.count(8), 12);
        Calls.dueRoom("an empty 13th", () -> y.words(400));
        Calls.dueNumber("a 13th beyond 400", () -> y.words(401));
        Calls.tape(y, "years");
        Calls.dueNumber("a wrong 13th", () -> y.words(0));
        Calls.due("its place", y.fault(), 5);
    }

    private static void faultOfTheLatest() {
        Calls.sentence("The first wrong byte of the latest text that was read; NONE without one, and ahead of any.");
        GreatEstate x = new GreatEstate();
        Calls.due("ahead of any", x.fault(), -1);
        Calls.tape(x, "x");
        Calls.due("a tape alone", x.fault(), -1);
        Calls.dueNumber("wrong at 0", () -> x.let(0, 0, 0, 0, false));
        Calls.due("0", x.fault(), 0);
        x.feed(0x20202020, 0x20202020, 0x20202020, 0x20202020, 0x20202020);
        Calls.due("feeding leaves it", x.fault(), 0);
        Calls.due("blanks are right", x.words(0), 0);
        Calls.due("none", x.fault(), -1);
        Calls.tape(x, "sell x");
        Calls.dueNumber("wrong at 5", () -> x.words(0));
        Calls.tape(x, "rent 1");
        Calls.due("a field that is held: the text is right", x.keep(0, 0, 2, 0, 0), 0);
        Calls.due("it does not come", x.let(0, 0, 0, 0, false), -1);
        Calls.due("but it was read", x.fault(), -1);
        Calls.tape(x, "rent x");
        Calls.dueNumber("of a field that is held", () -> x.let(0, 0, 0, 0, false));
        Calls.due("wrong at 5", x.fault(), 5);
        Calls.tape(x, "x");
        Calls.dueIndex("of no field", () -> x.let(-1, 0, 0, 0, false));
        Calls.due("it was not read", x.fault(), 5);
        x.seasons(1);
        Calls.due("seasons leave it", x.fault(), 5);
    }
}
