/** Promises 36 to 41: rows, tear, check, image, back, count. */
public final class ImageTest {
    public static void main(String[] args) {
        rowsOfSummers();
        tearing();
        rowsRefuse();
        imageOfAll();
        imageKeepsTexts();
        whatAnImageLeaves();
        counts();
        Calls.finish();
    }

    private static void rowsOfSummers() {
        GreatEstate x = new GreatEstate();
        x.keep(0, 0, 2, 0, 0);
        x.sow(0, 1);
        x.seasons(1);
        Calls.due("no row yet", x.count(17), 0);
        int[] brought = {13, 12, 11, 10, 9, 8};
        for (int year = 0; year < 6; year++) {
            x.seasons(year == 0 ? 1 : 4);
            int rows = Math.min(4, year + 1);
            Calls.due("rows in year " + year, x.count(17), rows);
            for (int i = 0; i < rows; i++) {
                Calls.due("row " + i + " in year " + year, x.row(i, 0), brought[year - rows + 1 + i]);
                Calls.due("row " + i + " of another field", x.row(i, 1), 0);
            }
        }
        Calls.due("all true", x.check(), -1);
    }

    private static void tearing() {
        GreatEstate x = new GreatEstate();
        x.keep(0, 0, 2, 0, 0);
        x.sow(0, 1);
        x.seasons(10);
        Calls.due("rows", x.count(17), 3);
        Calls.due("torn", x.tear(2, 47, 5), 5);
        Calls.due("the only one", x.check(), 2 * 48 + 47);
        Calls.due("torn", x.tear(2, 0, -1), -12);
        Calls.due("the first", x.check(), 2 * 48);
        Calls.due("row", x.row(2, 0), -12);
        Calls.due("yield stays", x.look(0, 9), 11);
        Calls.due("torn", x.tear(1, 40, 8), 8);
        Calls.due("an older row", x.check(), 48 + 40);
        Calls.due("torn by nothing", x.tear(0, 3, 0), 0);
        Calls.due("still", x.check(), 88);
        Calls.due("torn back", x.tear(1, 40, 8), 0);
        Calls.due("the next", x.check(), 96);
        x.seasons(8);
        Calls.due("it goes down a row", x.check(), 48);
        x.seasons(4);
        Calls.due("and again", x.check(), 0);
        x.seasons(4);
        Calls.due("and out", x.check(), -1);
    }

    private static void rowsRefuse() {
        GreatEstate x = new GreatEstate();
        Calls.dueIndex("field 48 ahead of the row", () -> x.row(0, 48));
        Calls.dueIndex("tear -1 ahead of the row", () -> x.tear(0, -1, 0));
        Calls.dueNoSuch("row 0", () -> x.row(0, 0));
        Calls.dueNoSuch("tear 0", () -> x.tear(0, 0, 1));
        x.seasons(2);
        Calls.due("row 0 now", x.row(0, 0), 0);
        Calls.dueNoSuch("row 1", () -> x.row(1, 0));
        Calls.dueNoSuch("row -1", () -> x.row(-1, 0));
        Calls.dueNoSuch("tear 1", () -> x.tear(1, 0, 1));
        Calls.dueNoSuch("tear -1", () -> x.tear(-1, 0, 1));
    }

    private static void full(GreatEstate x) {
        Calls.words(x, 0, "years 4;sell if soil<9;borrow 900;part wood 50;charge 3");
        x.price(1, 0, 20);
        x.rain(0, 2, true);
        Calls.farm(x, 0, 9, 3, 50, "rent 400;put 10 if year<1;owe drain 2");
        x.keep(4, 5, 3, 0, 0);
        x.keep(6, 6, 4, 130, 2);
        x.keep(7, 7, 5, 40, 0);
        x.sow(4, 2);
        x.loan(200, 100, 5, false);
        x.sell(47, false);
        x.job(10, 1, 0);
        x.trouble(5, 0);
        x.seasons(6);
        x.work(0, false);
        x.tear(0, 0, 1);
        x.heir();
    }

    private static void changed(GreatEstate x) {
        full(x);
        x.image();
        x.rain(0, -2, true);
        x.price(1, 2, 77);
        Calls.words(x, 6, "strike years;strike sell;part land 9;charge 50");
        Calls.farm(x, 16, 25, 9, 0, "rent 7");
        x.keep(40, 40, 2, 0, 0);
        x.give(1);
        x.loan(500, 0, 2, true);
        x.sell(46, true);
        x.job(1, 9, 0);
        x.trouble(-9, 0);
        x.field(3, 0, 0, 0, 0, 9);
        x.tear(0, 5, 7);
        x.seasons(20);
        x.heir();
    }

    private static void imageOfAll() {
        String first = Whole.of(ImageTest::full);
        Calls.due("all is another", Whole.of(ImageTest::changed).equals(first), false);
        Calls.due("all is as it was", Whole.of(x -> {
            changed(x);
            Calls.due("back", x.back(), true);
        }).equals(first), true);
        String then = Whole.of(x -> {
            changed(x);
            x.back();
            x.seasons(8);
        });
        Calls.due("it goes the same way", Whole.of(x -> {
            changed(x);
            x.back();
            x.seasons(8);
            Calls.due("back again", x.back(), true);
            x.seasons(8);
        }).equals(then), true);
        Calls.due("as one without an image", Whole.of(x -> {
            full(x);
            x.seasons(8);
        }).equals(then), true);
    }

    private static void imageKeepsTexts() {
        GreatEstate x = new GreatEstate();
        Calls.yearly(x, 0, 0, 0, "rent 11");
        Calls.words(x, 0, "years 5");
        x.image();
        Calls.yearly(x, 1, 1, 0, "rent 22");
        Calls.words(x, 0, "years 6");
        x.back();
        Calls.due("rent", x.rent(0), 11);
        Calls.due("years", x.may(0, 0), 5);
        Calls.due("another lease", Calls.yearly(x, 1, 1, 0, "rent 33 if year<1;rent 1"), 1);
        Calls.due("its rent", x.rent(1), 34);
        Calls.words(x, 0, "years 7");
        Calls.due("its years", x.may(0, 0), 7);
        x.back();
        Calls.tape(x, "rent 5 bogus");
        Calls.dueNumber("a wrong text", () -> x.let(1, 1, 0, 0, false));
        Calls.due("rent still", x.rent(0), 11);
        Calls.due("years still", x.may(0, 0), 5);
    }

    private static void whatAnImageLeaves() {
        GreatEstate x = new GreatEstate();
        Calls.due("none was kept", x.back(), false);
        x.image();
        Calls.tape(x, "bogus");
        Calls.dueNumber("a wrong text", () -> x.words(0));
        Calls.tape(x, "years 5");
        Calls.due("back", x.back(), true);
        Calls.due("fault stays", x.fault(), 0);
        Calls.due("the tape stays", x.words(0), 1);
        Calls.due("back again", x.back(), true);
        Calls.due("no words", x.count(8), 0);
        x.seasons(5);
        x.image();
        x.seasons(5);
        Calls.due("the later image", x.back() && x.count(0) == 5, true);
        x.job(1, 1, 1);
        Calls.due("plans too", x.back() && x.job(1, 1, 1) == 1, true);
    }

    private static void counts() {
        GreatEstate x = new GreatEstate();
        full(x);
        int[] due = {6, 1, x.count(2), x.count(3), 4, 4, x.count(6), 40, 1, 5, 1, 160, 1, 0, 1, x.count(15), 3, 2, x.count(18)};
        for (int what = 0; what < due.length; what++) {
            Calls.due("count " + what, x.count(what), due[what]);
        }
        Calls.due("count 19", x.count(19), -1);
        Calls.due("count -1", x.count(-1), -1);
        Calls.due("count far", x.count(Integer.MAX_VALUE), -1);
    }
}
