/** Promises 7 and 8: prices told and known. */
public final class MarketTest {
    public static void main(String[] args) {
        latestTellingCounts();
        twoHundredTellings();
        refuses();
        Calls.finish();
    }

    private static void latestTellingCounts() {
        GreatEstate x = new GreatEstate();
        Calls.due("at first", x.known(1, 3, 0), 10);
        Calls.due("first telling", x.price(1, 3, 20), 1);
        x.seasons(2);
        Calls.due("second telling", x.price(1, 3, 30), 2);
        Calls.due("third telling", x.price(1, 3, 40), 3);
        x.seasons(1);
        Calls.due("another crop", x.price(2, 3, 0), 4);
        Calls.due("another year", x.price(1, 4, 100), 5);
        Calls.due("ahead of all", x.known(1, 3, -1), 10);
        Calls.due("season 0", x.known(1, 3, 0), 20);
        Calls.due("season 1", x.known(1, 3, 1), 20);
        Calls.due("season 2, the latest", x.known(1, 3, 2), 40);
        Calls.due("season 400", x.known(1, 3, 400), 40);
        Calls.due("far behind", x.known(1, 3, Integer.MAX_VALUE), 40);
        Calls.due("far ahead", x.known(1, 3, Integer.MIN_VALUE), 10);
        Calls.due("barley ahead", x.known(2, 3, 2), 10);
        Calls.due("barley", x.known(2, 3, 3), 0);
        Calls.due("year 4", x.known(1, 4, 3), 100);
        Calls.due("untold", x.known(4, 100, 3), 10);
    }

    private static void twoHundredTellings() {
        GreatEstate x = new GreatEstate();
        for (int i = 1; i <= 200; i++) {
            Calls.due("telling " + i, x.price(i % 4 + 1, i % 101, i % 100), i);
        }
        Calls.due("no telling 201", x.price(1, 0, 77), -1);
        Calls.due("not told", x.known(1, 0, 0), 10);
        Calls.dueNumber("numbers are asked first", () -> x.price(1, 0, 101));
    }

    private static void refuses() {
        GreatEstate x = new GreatEstate();
        Calls.dueNumber("crop 0", () -> x.price(0, 0, 0));
        Calls.dueNumber("crop 5", () -> x.price(5, 0, 0));
        Calls.dueNumber("year -1", () -> x.price(1, -1, 0));
        Calls.dueNumber("year 101", () -> x.price(1, 101, 0));
        Calls.dueNumber("price -1", () -> x.price(1, 0, -1));
        Calls.dueNumber("price 101", () -> x.price(1, 0, 101));
        Calls.dueNumber("known crop 0", () -> x.known(0, 0, 0));
        Calls.dueNumber("known crop 5", () -> x.known(5, 0, 0));
        Calls.dueNumber("known year -1", () -> x.known(1, -1, 0));
        Calls.dueNumber("known year 101", () -> x.known(1, 101, 0));
        Calls.due("none was told", x.price(4, 100, 100), 1);
    }
}
