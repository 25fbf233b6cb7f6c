/**
 * "All sums of coin that grow .. stay between - 2000000000 and 2000000000: what would be beyond is lost.": a test for each
 * sum that it names. Some of them cannot come so far in 400 SEASONS, with 24 HOLDINGS, by 512 calls (24 MINES of the
 * most TONS and ROYALTY bring 480000000 in all): of those the most that can come is asked, of which nothing is lost.
 */
public final class EdgesOfCoinTest {
    private static final int MOST = 2000000000;

    public static void main(String[] args) {
        incomeByCharges();
        incomeByOut();
        incomeByLoans();
        incomeAtItsMost();
        capitalAtItsMost();
        arrearsBehindWhatIsPaid();
        arrearsStay();
        arrearsJustThere();
        putStays();
        putComesDue();
        paidByAMine();
        paidByATenant();
        owedStays();
        owedLessWaste();
        owedLessKeptBack();
        chargesPaid();
        paidOutToHeirs();
        paidOutAtOut();
        allArrears();
        allPut();
        allThatIsOwedOnLoans();
        allHarvests();
        Calls.finish();
    }

    private static void sentence(String which) {
        Calls.sentence("All sums of coin that grow (INCOME, CAPITAL, ARREARS, PUT, what one paid or is owed, CHARGES paid, what is paid out, the sums of count()) stay between - 2000000000 and 2000000000: what would be beyond is lost. -- " + which);
    }

    private static String joined(String line, int n) {
        StringBuilder s = new StringBuilder(line);
        for (int i = 1; i < n; i++) {
            s.append(';').append(line);
        }
        return s.toString();
    }

    /** A lease whose corn of wheat is 10000000 in all: a RENT of 1000000000 at a PRICE of 100. */
    private static String tenMillions() {
        return joined("corn 999999 of wheat", 10) + ";corn 10 of wheat";
    }

    /** Every field yields nothing. */
    private static void bare(GreatEstate x, int field) {
        x.field(field, 0, 9, 20, 0, 0);
    }

    /** 11 texts that charge 175999824 a year. */
    private static GreatEstate charged() {
        GreatEstate x = new GreatEstate();
        for (int i = 0; i < 11; i++) {
            Calls.words(x, 0, joined("charge 999999", 16));
        }
        return x;
    }

    /** A yearly of 10 fields, all drained anew in the winter of year 1, with a lease. */
    private static GreatEstate drained(String lease) {
        GreatEstate x = new GreatEstate();
        x.keep(47, 47, 5, 1000, 0);
        x.seasons(7);
        Calls.yearly(x, 0, 12, 0, lease);
        for (int field = 0; field < 5; field++) {
            x.work(field, false);
            x.work(8 + field, false);
        }
        return x;
    }

    private static void incomeByCharges() {
        sentence("INCOME, below, by charges");
        GreatEstate x = charged();
        x.keep(0, 0, 5, 1000, 0);
        Calls.words(x, 60, "strike charge");
        long due = 0;
        for (int year = 0; year < 15; year++) {
            x.seasons(4);
            due = Math.max(-MOST, due + 1000 - 175999824);
            Calls.due("income by year " + year, x.count(2), due);
        }
        Calls.due("it came to the bound", x.count(2), -MOST);
        x.seasons(3);
        Calls.due("what was beyond is lost: it grows from there", x.count(2), -MOST + 1000);
        x.seasons(1);
        Calls.due("no charge any more", x.count(2), -MOST + 1000);
    }

    private static void incomeByOut() {
        sentence("INCOME, below, by what outgoers are paid");
        GreatEstate x = drained(joined("owe drain 999999", 12));
        Calls.yearly(x, 20, 20, 0, "owe lime 999999;owe lime 999999");
        x.work(20, true);
        x.notice(1);
        x.notice(2);
        int income = x.count(2);
        Calls.due("so much is owed", x.owed(1), MOST);
        x.seasons(1);
        Calls.due("the first is paid all", x.led(1, 9), MOST);
        Calls.due("the second is paid all", x.led(2, 9), 10 * 999999);
        Calls.due("income was above 0", income > 0 && income < 9999990, true);
        Calls.due("income", x.count(2), -MOST);
    }

    private static void incomeByLoans() {
        sentence("INCOME, below, by loans");
        GreatEstate x = charged();
        x.seasons(40);
        x.loan(100000, 2000, 1, true);
        x.seasons(4);
        Calls.due("11 years, and the loan", x.count(2), -11L * 175999824 - 120000);
        x.seasons(4);
        Calls.due("at the bound", x.count(2), -MOST);
        x.loan(100000, 2000, 1, true);
        x.seasons(4);
        Calls.due("it stays there", x.count(2), -MOST);
        Calls.due("the loan is paid all the same", x.owing(1), 0);
    }

    private static void mines(GreatEstate x) {
        for (int i = 0; i < 24; i++) {
            x.keep(i, i, 4, 2000, 100);
        }
        for (int i = 0; i < 10; i++) {
            x.seasons(40);
        }
    }

    private static void incomeAtItsMost() {
        sentence("INCOME, above: the most that can come");
        GreatEstate x = new GreatEstate();
        mines(x);
        Calls.due("income", x.count(2), 480000000);
        Calls.due("no capital", x.count(3), 0);
    }

    private static void capitalAtItsMost() {
        sentence("CAPITAL, above: the most that can come");
        GreatEstate x = new GreatEstate();
        Calls.words(x, 0, "part mine 100");
        mines(x);
        Calls.due("capital", x.count(3), 480000000);
        Calls.due("no income", x.count(2), 0);
        x.loan(100000, 0, 1, true);
        Calls.due("with a loan", x.count(3), 480100000);
        GreatEstate y = new GreatEstate();
        Calls.words(y, 0, "part mine 99");
        mines(y);
        Calls.due("99 hundredths", y.count(3), 475200000);
        Calls.due("one hundredth", y.count(2), 4800000);
    }

    private static void arrearsBehindWhatIsPaid() {
        sentence("ARREARS: the rest, behind what is paid");
        GreatEstate x = new GreatEstate();
        bare(x, 0);
        Calls.yearly(x, 0, 0, 0, tenMillions());
        x.price(1, 0, 100);
        x.price(1, 1, 50);
        x.price(1, 2, 100);
        x.seasons(8);
        Calls.due("arrears ahead", x.led(0, 3), 1500000000);
        x.field(0, 2, 0, 0, 0, 0);
        x.seasons(2);
        Calls.due("coin", x.led(0, 2), 1000);
        Calls.due("what will be due", x.rent(0), 1000000000);
        x.seasons(1);
        Calls.due("it pays all that it has", x.led(0, 7), 1000);
        Calls.due("coin then", x.led(0, 2), 0);
        Calls.due("the rest would be 2499999000", x.led(0, 3), MOST);
    }

    private static void arrearsStay() {
        sentence("ARREARS stay at the bound, and are paid from there");
        GreatEstate x = new GreatEstate();
        bare(x, 0);
        Calls.yearly(x, 0, 0, 0, tenMillions());
        for (int year = 0; year < 4; year++) {
            x.price(1, year, 100);
            x.seasons(4);
            Calls.due("year " + year, x.led(0, 3), Math.min(MOST, 1000000000L * (year + 1)));
        }
        x.price(1, 4, 0);
        x.price(2, 4, 100);
        x.field(0, 2, 0, 0, 0, 0);
        x.seasons(3);
        Calls.due("no rent: 9 barleys at 100 pay of it", x.led(0, 7), 900);
        Calls.due("the rest", x.led(0, 3), MOST - 900);
        x.price(1, 5, 100);
        x.seasons(4);
        Calls.due("the bound again", x.led(0, 3), MOST);
    }

    private static void arrearsJustThere() {
        sentence("ARREARS of just so much, and of one more");
        for (int more = 0; more < 3; more++) {
            GreatEstate x = new GreatEstate();
            bare(x, 0);
            Calls.yearly(x, 0, 0, 1, tenMillions() + ";rent " + more + " if year>0");
            x.price(1, 0, 100);
            x.price(1, 1, 100);
            x.seasons(7);
            Calls.due("2000000000 less 1, and " + more, x.led(0, 3), Math.min(MOST, 1999999999L + more));
        }
    }

    private static void putStays() {
        sentence("PUT");
        GreatEstate x = new GreatEstate();
        bare(x, 0);
        Calls.yearly(x, 0, 0, 0, tenMillions() + ";put 75 if 1<2");
        for (int year = 0; year < 5; year++) {
            x.price(1, year, 100);
            x.seasons(4);
            Calls.due("put by year " + year, x.led(0, 4), Math.min(MOST, 750000000L * (year + 1)));
            Calls.due("arrears by year " + year, x.led(0, 3), 250000000L * (year + 1));
        }
    }

    private static void putComesDue() {
        sentence("PUT at the bound comes due with RENT: what is due is not bounded");
        GreatEstate x = new GreatEstate();
        bare(x, 0);
        Calls.yearly(x, 0, 0, 0, tenMillions() + ";put 100 if year<3");
        for (int year = 0; year < 4; year++) {
            x.price(1, year, 100);
        }
        x.seasons(12);
        Calls.due("put", x.led(0, 4), MOST);
        Calls.due("no arrears", x.led(0, 3), 0);
        x.field(0, 2, 0, 0, 0, 0);
        x.seasons(3);
        Calls.due("1000 are paid of 3000000000", x.led(0, 7), 1000);
        Calls.due("nothing is put", x.led(0, 4), 0);
        Calls.due("arrears", x.led(0, 3), MOST);
    }

    private static void paidByAMine() {
        sentence("what one paid: the most of a mine");
        GreatEstate x = new GreatEstate();
        x.keep(0, 0, 4, 2000, 100);
        for (int i = 0; i < 10; i++) {
            x.seasons(40);
        }
        Calls.due("paid", x.led(0, 7), 20000000);
        Calls.due("tons", x.led(0, 8), 200000);
    }

    private static void paidByATenant() {
        sentence("what one paid: a tenant pays what it has");
        GreatEstate x = new GreatEstate();
        for (int field = 0; field < 48; field++) {
            bare(x, field);
        }
        Calls.yearly(x, 0, 47, 100000, joined("corn 999999 of wheat", 16));
        x.price(1, 0, 100);
        x.seasons(3);
        Calls.due("paid", x.led(0, 7), 100000);
        Calls.due("income", x.count(2), 100000);
        Calls.due("arrears", x.led(0, 3), 1599998400 - 100000);
        x.seasons(40);
        Calls.due("no more", x.led(0, 7), 100000);
    }

    private static void owedStays() {
        sentence("what one is owed");
        for (int more = 9; more <= 11; more++) {
            GreatEstate x = drained(joined("owe drain 999999", 10) + ";owe drain " + more);
            Calls.due("1999998000 and 200 times " + more, x.owed(1), Math.min(MOST, 1999998000L + 200L * more));
        }
        Calls.due("far beyond", drained(joined("owe drain 999999", 16)).owed(1), MOST);
    }

    private static void owedLessWaste() {
        sentence("what one is owed, behind waste");
        GreatEstate x = drained(joined("owe drain 999999", 11) + ";" + joined("waste 999999", 5));
        Calls.due("2199997800 less 49999950", x.owed(1), MOST);
        x.seasons(4);
        Calls.due("a year later: 2089997910 less 49999950", x.owed(1), MOST);
        x.seasons(4);
        Calls.due("two years later: 1979998020 less 49999950", x.owed(1), 1979998020 - 49999950);
        GreatEstate y = drained("owe drain 1;" + joined("waste 999999", 15));
        Calls.due("waste alone: 0 at least", y.owed(1), 0);
    }

    private static void owedLessKeptBack() {
        sentence("what one is owed, ahead of what is kept back");
        GreatEstate x = new GreatEstate();
        x.keep(47, 47, 5, 1000, 0);
        for (int field = 0; field < 48; field++) {
            bare(x, field);
        }
        Calls.yearly(x, 0, 12, 0, joined("owe drain 999999", 14) + ";rent 999999;put 10 if 1<2");
        x.seasons(3);
        for (int field = 0; field < 5; field++) {
            x.work(field, false);
            x.work(8 + field, false);
        }
        Calls.due("owed", x.owed(1), MOST);
        Calls.due("arrears and put", x.led(1, 3) + x.led(1, 4), 999999);
        x.notice(1);
        x.seasons(1);
        Calls.due("19 years are left: 2659997340, of 2000000000 the rest", x.led(1, 9), MOST - 999999);
    }

    private static void chargesPaid() {
        sentence("CHARGES paid");
        GreatEstate x = charged();
        for (int year = 0; year < 14; year++) {
            Calls.due("charges of a year", x.may(4, 0), 175999824);
            Calls.due("ahead of year " + year, x.count(16), Math.min(MOST, 175999824L * year));
            x.seasons(4);
        }
        Calls.due("at the bound", x.count(16), MOST);
    }

    private static void paidOutToHeirs() {
        sentence("what is paid out to heirs: the most that can come");
        GreatEstate x = new GreatEstate();
        for (int i = 0; i < 24; i++) {
            x.keep(i, i, 4, 2000, 100);
        }
        for (int i = 1; i <= 10; i++) {
            x.seasons(40);
            Calls.due("paid out", x.heir(), 48000000);
            Calls.due("in all", x.count(18), 48000000 * i);
        }
        Calls.due("no income", x.count(2), 0);
        Calls.due("reigns", x.count(12), 10);
        GreatEstate y = charged();
        y.seasons(40);
        y.seasons(40);
        Calls.due("of income at the bound below nothing", y.heir(), 0);
        Calls.due("none in all", y.count(18), 0);
        Calls.due("it stays", y.count(2), -MOST);
    }

    private static void paidOutAtOut() {
        sentence("what is paid out as one goes OUT");
        GreatEstate x = drained(joined("owe drain 999999", 16));
        x.notice(1);
        x.seasons(1);
        Calls.due("paid", x.led(1, 9), MOST);
        GreatEstate y = drained(joined("owe drain 999999", 10) + ";owe drain 10");
        y.notice(1);
        y.seasons(1);
        Calls.due("19 years of 20", y.led(1, 9), 1900000000);
    }

    private static void allArrears() {
        sentence("count 6, all ARREARS");
        GreatEstate x = new GreatEstate();
        for (int i = 0; i < 3; i++) {
            bare(x, i);
            Calls.yearly(x, i, i, 0, tenMillions());
        }
        x.price(1, 0, 50);
        x.price(1, 1, 100);
        x.seasons(4);
        Calls.due("three of 500000000", x.count(6), 1500000000);
        x.seasons(4);
        Calls.due("three of 1500000000", x.count(6), MOST);
        for (int i = 0; i < 3; i++) {
            Calls.due("each", x.led(i, 3), 1500000000);
        }
        x.notice(0);
        x.notice(1);
        x.price(1, 2, 0);
        x.seasons(4);
        Calls.due("one is left", x.count(6), 1500000000);
    }

    private static void allPut() {
        sentence("count 7, all PUT");
        GreatEstate x = new GreatEstate();
        for (int i = 0; i < 3; i++) {
            bare(x, i);
            Calls.yearly(x, i, i, 0, tenMillions() + ";put 100 if 1<2");
        }
        x.price(1, 0, 50);
        x.price(1, 1, 100);
        x.seasons(4);
        Calls.due("three of 500000000", x.count(7), 1500000000);
        x.seasons(4);
        Calls.due("three of 1500000000", x.count(7), MOST);
        for (int i = 0; i < 3; i++) {
            Calls.due("each", x.led(i, 4), 1500000000);
        }
    }

    private static void allThatIsOwedOnLoans() {
        sentence("count 11, all that is owed on loans: the most that can come");
        GreatEstate x = new GreatEstate();
        for (int i = 0; i < 12; i++) {
            x.loan(100000, 2000, 40, true);
        }
        Calls.due("owed", x.count(11), 1200000);
        Calls.due("capital", x.count(3), 1200000);
        x.seasons(4);
        Calls.due("a part less", x.count(11), 1170000);
        Calls.due("paid", x.count(2), -12 * 22500);
    }

    private static void allHarvests() {
        sentence("count 15, what all harvests brought: the most of a year");
        GreatEstate x = new GreatEstate();
        x.keep(0, 47, 2, 0, 0);
        x.price(1, 0, 100);
        x.rain(0, 5, true);
        for (int field = 0; field < 48; field++) {
            x.field(field, 9, 0, 0, 0, 0);
            x.sow(field, 1);
        }
        x.seasons(2);
        Calls.due("48 times 22 at 100", x.count(15), 105600);
        Calls.due("income", x.count(2), 105600);
        Calls.due("paid", x.led(0, 7), 105600);
    }
}
