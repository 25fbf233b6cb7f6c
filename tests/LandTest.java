/** Promises 1 to 6 and 15: a new object, the TAPE, fields, rain, look. */
public final class LandTest {
    public static void main(String[] args) {
        newObject();
        tapeGrowsAndEnds();
        tapeHoldsTheHighestByteFirst();
        fieldSets();
        fieldRefuses();
        rainAsItCounts();
        rainRefuses();
        lookRefuses();
        worthOfAField();
        Calls.finish();
    }

    private static void newObject() {
        int[] first = {5, 0, 0, 0, 0, 0, 0, 0, 0, 0, -1, 0, 200};
        for (int field = 0; field < 48; field++) {
            GreatEstate each = new GreatEstate();
            for (int what = 0; what < 13; what++) {
                Calls.due("new look " + field + " " + what, each.look(field, what), first[what]);
            }
        }
        GreatEstate x = new GreatEstate();
        for (int what = 0; what < 19; what++) {
            Calls.due("new count " + what, x.count(what), 0);
        }
        for (int what = 0; what < 10; what++) {
            Calls.due("new may " + what, x.may(what, 0), 0);
        }
        Calls.due("new fault", x.fault(), -1);
        Calls.due("new check", x.check(), -1);
        Calls.due("new arrears", x.arrears(0), -1);
        Calls.due("new back", x.back(), false);
        Calls.due("NONE", GreatEstate.NONE, -1);
        Calls.dueIndex("no holding", () -> x.led(0, 0));
        Calls.dueIndex("no loan", () -> x.owing(0));
        Calls.dueNoSuch("no wrong", () -> x.wrong(0, 0));
        Calls.dueNoSuch("no row", () -> x.row(0, 0));
    }

    private static void tapeGrowsAndEnds() {
        GreatEstate x = new GreatEstate();
        Calls.due("end of none", x.end(0), true);
        Calls.due("end behind", x.end(1), false);
        for (int i = 1; i <= 20; i++) {
            Calls.due("feed " + i, x.feed(0, 0, 0, 0, 0), 20 * i);
        }
        Calls.due("feed beyond 400", x.feed(0, 0, 0, 0, 0), -1);
        Calls.due("end 401", x.end(401), false);
        Calls.due("end -1", x.end(-1), false);
        Calls.due("end 400", x.end(400), true);
        Calls.due("end 381", x.end(381), true);
        Calls.due("feed to 401", x.feed(0, 0, 0, 0, 0), -1);
        Calls.due("end 381 again", x.end(381), true);
        Calls.due("end 382", x.end(382), false);
        Calls.due("end 380", x.end(380), true);
        Calls.due("feed to 400", x.feed(0, 0, 0, 0, 0), 400);
    }

    private static void tapeHoldsTheHighestByteFirst() {
        GreatEstate x = new GreatEstate();
        x.feed(('s' << 24) + ('e' << 16) + ('l' << 8) + 'l', ' ' << 24 | 'i' << 16 | 'f' << 8 | ' ', '1' << 24 | '<' << 16 | '2' << 8 | ' ', 0x20202020, 0x20202020);
        Calls.due("one line", x.words(0), 1);
        Calls.due("it lets", x.may(3, 7), 1);
        Calls.due("the tape is used up", x.end(1), false);
        x.feed(0x20202020, 0x20202020, 0x20202020, 0x20202020, 0x202020FF);
        Calls.dueNumber("a byte of 255", () -> x.words(0));
        Calls.due("its place", x.fault(), 19);
        Calls.due("used up by a throw", x.end(1), false);
    }

    private static void fieldSets() {
        GreatEstate x = new GreatEstate();
        Calls.due("field", x.field(47, 9, 8, 20, 99, 300), true);
        int[] now = {9, 8, 20, 0, 0, 0, 99, 300, 0, 0, -1, 0, 90100};
        for (int what = 0; what < 13; what++) {
            Calls.due("look " + what, x.look(47, what), now[what]);
        }
        Calls.due("field 0", x.field(47, 0, 0, 0, 0, 0), true);
        Calls.due("soil 0", x.look(47, 0), 0);
        Calls.words(x, 0, "sell");
        Calls.due("sold", x.sell(47, false), 100);
        Calls.due("field of a sold one", x.field(47, 1, 1, 1, 1, 1), false);
        Calls.due("nothing happened", x.look(47, 0), 0);
        Calls.dueNumber("numbers are asked first", () -> Calls.bit(x.field(47, 10, 1, 1, 1, 1)));
    }

    private static void fieldRefuses() {
        GreatEstate x = new GreatEstate();
        Calls.dueIndex("field -1", () -> Calls.bit(x.field(-1, 0, 0, 0, 0, 0)));
        Calls.dueIndex("field 48 ahead of numbers", () -> Calls.bit(x.field(48, 10, 0, 0, 0, 0)));
        int[] most = {9, 9, 20, 99, 300};
        for (int i = 0; i < 5; i++) {
            for (int side = 0; side < 2; side++) {
                int[] n = new int[5];
                n[i] = side == 0 ? -1 : most[i] + 1;
                Calls.dueNumber("number " + i + " " + n[i], () -> Calls.bit(x.field(3, n[0], n[1], n[2], n[3], n[4])));
            }
        }
        Calls.due("nothing happened", x.look(3, 0), 5);
    }

    private static void rainAsItCounts() {
        GreatEstate x = new GreatEstate();
        Calls.due("at first", x.fell(50), 0);
        x.rain(0, -5, true);
        x.rain(1, 99, false);
        x.rain(2, 2, true);
        Calls.due("-5", x.fell(0), -5);
        Calls.due("-3 by 2 toward 0", x.fell(1), -1);
        x.rain(2, 5, true);
        Calls.due("0 by 2", x.fell(1), 0);
        x.rain(2, 0, false);
        Calls.due("-5 by 2 beside none", x.fell(1), -2);
        Calls.due("none and 0", x.fell(2), 0);
        x.rain(3, 5, true);
        Calls.due("none and 5", x.fell(2), 2);
        x.rain(0, 0, false);
        x.rain(1, 3, true);
        Calls.due("ahead of year 0 is 0", x.fell(0), 1);
        x.rain(99, 5, true);
        x.rain(100, 0, false);
        Calls.due("behind year 100 is 0", x.fell(100), 2);
        x.rain(100, -4, true);
        Calls.due("year 100", x.fell(100), -4);
    }

    private static void rainRefuses() {
        GreatEstate x = new GreatEstate();
        Calls.dueNumber("year -1", () -> rain(x, -1, 0, true));
        Calls.dueNumber("year 101", () -> rain(x, 101, 0, false));
        Calls.dueNumber("rain 6", () -> rain(x, 0, 6, true));
        Calls.dueNumber("rain -6", () -> rain(x, 0, -6, true));
        Calls.due("rain is not asked", rain(x, 0, 6, false), 0);
        Calls.dueNumber("fell -1", () -> x.fell(-1));
        Calls.dueNumber("fell 101", () -> x.fell(101));
    }

    private static int rain(GreatEstate x, int year, int n, boolean is) {
        x.rain(year, n, is);
        return 0;
    }

    private static void lookRefuses() {
        GreatEstate x = new GreatEstate();
        Calls.dueIndex("look -1", () -> x.look(-1, 0));
        Calls.dueIndex("look 48 ahead of what", () -> x.look(48, 13));
        Calls.dueNoSuch("look what 13", () -> x.look(0, 13));
        Calls.dueNoSuch("look what -1", () -> x.look(0, -1));
    }

    private static void worthOfAField() {
        GreatEstate x = new GreatEstate();
        x.field(0, 0, 9, 20, 0, 0);
        Calls.due("10 at least", x.look(0, 12), 10);
        x.field(0, 0, 9, 20, 0, 7);
        Calls.due("age comes to it", x.look(0, 12), 59);
        x.field(0, 2, 4, 3, 0, 0);
        Calls.due("140 - 15 - 40", x.look(0, 12), 85);
        Calls.words(x, 0, "part drain 100; borrow 500");
        x.loan(30, 0, 1, false);
        Calls.due("drained", x.work(0, false), true);
        Calls.due("140 - 15", x.look(0, 12), 125);
        x.keep(0, 0, 4, 100, 0);
        x.seasons(4);
        Calls.due("sunk", x.look(0, 8), 1);
        Calls.due("140 - 15 - 30", x.look(0, 12), 95);
    }
}
