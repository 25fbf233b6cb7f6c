/** Promises 9 to 13 and 16: let, keep, sow, notice, give, led. */
public final class HoldingsTest {
    public static void main(String[] args) {
        letOfARectangle();
        letByTheWords();
        letRefuses();
        keepOfEachKind();
        keepRefuses();
        twentyFour();
        sowing();
        noticeEndsAYearly();
        giving();
        ledRefuses();
        Calls.finish();
    }

    private static void letOfARectangle() {
        GreatEstate x = new GreatEstate();
        Calls.due("from lower left to upper right", Calls.yearly(x, 17, 11, 100000, "rent 1"), 0);
        for (int field = 0; field < 48; field++) {
            int row = field / 8;
            int column = field % 8;
            boolean in = row >= 1 && row <= 2 && column >= 1 && column <= 3;
            Calls.due("holder of " + field, x.look(field, 10), in ? 0 : -1);
        }
        int[] led = {1, 6, 100000, 0, 0, -1, 0, 0, 0, 0, 0};
        for (int what = 0; what < led.length; what++) {
            Calls.due("led " + what, x.led(0, what), led[what]);
        }
        Calls.due("one that crosses it", Calls.yearly(x, 0, 9, 0, ""), -1);
        Calls.due("the edge", Calls.yearly(x, 47, 40, 0, ""), 1);
        Calls.due("eight fields", x.led(1, 1), 8);
        Calls.due("one field", Calls.yearly(x, 0, 0, 0, ""), 2);
        Calls.due("holdings", x.count(4), 3);
        Calls.due("not over", x.count(5), 3);
    }

    private static void letByTheWords() {
        GreatEstate x = new GreatEstate();
        x.seasons(2);
        Calls.tape(x, "rent 1");
        Calls.due("no farm without words", x.let(0, 0, 1, 0, false), -1);
        Calls.due("the tape is used up", x.end(1), false);
        Calls.due("no wrong", x.count(13), 0);
        Calls.words(x, 2, "years 3");
        Calls.due("not 4 years", x.let(0, 0, 4, 0, false), -1);
        Calls.due("3 years", x.let(0, 0, 3, 0, false), 0);
        Calls.due("a farm", x.led(0, 0), 0);
        Calls.due("to the end of year 2", x.led(0, 5), 11);
        Calls.due("rightful though forced", x.let(1, 1, 3, 0, true), 1);
        Calls.due("none was wrong", x.count(13), 0);
        Calls.due("forced upon a let field", x.let(1, 1, 4, 0, true), -1);
        Calls.due("none was wrong still", x.count(13), 0);
        Calls.due("forced", x.let(2, 2, 99, 0, true), 2);
        Calls.due("to year 98", x.led(2, 5), 395);
        Calls.due("one was wrong", x.count(13), 1);
        Calls.due("its kind", x.wrong(0, 0), 0);
        Calls.due("its coin", x.wrong(0, 1), 0);
        Calls.due("its season", x.wrong(0, 2), 2);
        Calls.due("its reign", x.wrong(0, 3), 0);
        Calls.due("a yearly forced is rightful", x.let(3, 3, 0, 0, true), 3);
        Calls.due("still one", x.count(13), 1);
        x.sell(4, true);
        Calls.due("a sold field", x.let(4, 5, 0, 0, true), -1);
    }

    private static void letRefuses() {
        GreatEstate x = new GreatEstate();
        Calls.dueIndex("from -1", () -> x.let(-1, 0, 0, 0, false));
        Calls.dueIndex("to 48 ahead of years", () -> x.let(0, 48, -1, 0, false));
        Calls.dueNumber("years -1", () -> x.let(0, 0, -1, 0, true));
        Calls.dueNumber("years 100", () -> x.let(0, 0, 100, 0, true));
        Calls.dueNumber("coin -1", () -> x.let(0, 0, 0, -1, true));
        Calls.dueNumber("coin 100001", () -> x.let(0, 0, 0, 100001, true));
        Calls.due("none came", x.count(4), 0);
        Calls.tape(x, "rent");
        Calls.dueNumber("a wrong text", () -> x.let(0, 0, 0, 0, true));
        Calls.due("none came still", x.count(4), 0);
        Calls.due("field of none", x.look(0, 10), -1);
    }

    private static void keepOfEachKind() {
        GreatEstate x = new GreatEstate();
        Calls.due("hand", x.keep(0, 1, 2, -5, 1000000), 0);
        Calls.due("wood", x.keep(2, 3, 3, -5, 1000000), 1);
        Calls.due("mine", x.keep(4, 5, 4, 2000, 100), 2);
        Calls.due("cottage", x.keep(6, 6, 5, 1000, -1), 3);
        Calls.due("mine of nothing", x.keep(8, 8, 4, 0, 0), 4);
        Calls.due("cottage of nothing", x.keep(9, 9, 5, 0, 0), 5);
        for (int holding = 0; holding < 6; holding++) {
            Calls.due("kind of " + holding, x.led(holding, 0), new int[] {2, 3, 4, 5, 4, 5}[holding]);
            Calls.due("last of " + holding, x.led(holding, 5), -1);
            for (int what = 2; what < 11; what++) {
                if (what != 5) {
                    Calls.due("led " + holding + " " + what, x.led(holding, what), 0);
                }
            }
        }
        Calls.due("it leaves the tape", x.feed(0, 0, 0, 0, 0), 20);
        x.keep(47, 47, 2, 0, 0);
        Calls.due("it leaves the tape still", x.end(20), true);
        Calls.due("on a held field", x.keep(6, 7, 2, 0, 0), -1);
        x.sell(7, true);
        Calls.due("on a sold field", x.keep(7, 7, 2, 0, 0), -1);
    }

    private static void keepRefuses() {
        GreatEstate x = new GreatEstate();
        Calls.dueIndex("from 48", () -> x.keep(48, 0, 9, 0, 0));
        Calls.dueIndex("to -1", () -> x.keep(0, -1, 2, 0, 0));
        Calls.dueNumber("kind 1", () -> x.keep(0, 0, 1, 0, 0));
        Calls.dueNumber("kind 6", () -> x.keep(0, 0, 6, 0, 0));
        Calls.dueNumber("tons -1", () -> x.keep(0, 0, 4, -1, 0));
        Calls.dueNumber("tons 2001", () -> x.keep(0, 0, 4, 2001, 0));
        Calls.dueNumber("royalty -1", () -> x.keep(0, 0, 4, 0, -1));
        Calls.dueNumber("royalty 101", () -> x.keep(0, 0, 4, 0, 101));
        Calls.dueNumber("rent -1", () -> x.keep(0, 0, 5, -1, 0));
        Calls.dueNumber("rent 1001", () -> x.keep(0, 0, 5, 1001, 0));
        Calls.due("none came", x.count(4), 0);
    }

    private static void twentyFour() {
        GreatEstate x = new GreatEstate();
        for (int i = 0; i < 24; i++) {
            Calls.due("holding " + i, i % 2 == 0 ? x.keep(i, i, 2, 0, 0) : Calls.yearly(x, i, i, i, "rent " + i), i);
        }
        Calls.due("no keep 25", x.keep(40, 40, 2, 0, 0), -1);
        Calls.due("no let 25", Calls.yearly(x, 40, 40, 0, "rent 77"), -1);
        Calls.tape(x, "rent 77;x");
        Calls.dueNumber("the text is asked first", () -> x.let(40, 40, 1, 0, false));
        Calls.due("its place", x.fault(), 8);
        Calls.due("no farm forced 25", Calls.farm(x, 40, 40, 1, 0, ""), -1);
        Calls.due("nothing wrong", x.count(13), 0);
        for (int i = 1; i < 24; i += 2) {
            Calls.due("rent " + i, x.rent(i), i);
        }
        x.give(0);
        Calls.due("its number is kept", x.keep(0, 0, 2, 0, 0), -1);
        Calls.due("holdings", x.count(4), 24);
        Calls.due("not over", x.count(5), 23);
    }

    private static void sowing() {
        GreatEstate x = new GreatEstate();
        x.keep(0, 0, 2, 0, 0);
        x.keep(1, 1, 3, 0, 0);
        x.keep(2, 2, 4, 0, 0);
        x.keep(3, 3, 5, 0, 0);
        Calls.yearly(x, 4, 4, 0, "");
        Calls.due("sow", x.sow(0, 5), true);
        Calls.due("sow again", x.sow(0, 5), false);
        Calls.due("crop", x.look(0, 3), 5);
        Calls.due("sow none", x.sow(0, 0), true);
        Calls.due("none to none", x.sow(1, 0), false);
        Calls.due("in a wood", x.sow(1, 1), true);
        for (int field = 2; field < 6; field++) {
            int f = field;
            Calls.dueKind("no hand at " + f, () -> Calls.bit(x.sow(f, 1)));
            Calls.due("not sown " + f, x.look(f, 3), 0);
        }
        Calls.dueNumber("crop 6 ahead of the kind", () -> Calls.bit(x.sow(5, 6)));
        Calls.dueNumber("crop -1", () -> Calls.bit(x.sow(0, -1)));
        Calls.dueIndex("field 48 ahead of the crop", () -> Calls.bit(x.sow(48, 6)));
        Calls.dueIndex("field -1", () -> Calls.bit(x.sow(-1, 0)));
        x.seasons(4);
        Calls.due("the wood keeps what was sown", x.look(1, 3), 1);
    }

    private static void noticeEndsAYearly() {
        GreatEstate x = new GreatEstate();
        Calls.yearly(x, 0, 1, 7, "rent 1");
        Calls.farm(x, 2, 2, 2, 7, "");
        x.keep(3, 3, 2, 0, 0);
        Calls.dueKind("a farm", () -> Calls.bit(x.notice(1)));
        Calls.dueKind("a hand", () -> Calls.bit(x.notice(2)));
        Calls.dueIndex("none", () -> Calls.bit(x.notice(3)));
        Calls.dueIndex("-1", () -> Calls.bit(x.notice(-1)));
        x.seasons(4);
        Calls.due("without notice it goes on", x.led(0, 6), 0);
        Calls.due("led ahead", x.led(0, 10), 0);
        Calls.due("notice", x.notice(0), true);
        Calls.due("notice again", x.notice(0), false);
        Calls.due("led", x.led(0, 10), 1);
        x.seasons(3);
        Calls.due("still there", x.led(0, 1), 2);
        Calls.due("a crop stands", x.look(0, 3) > 0, true);
        Calls.due("the farm goes on", x.led(1, 6), 0);
        x.seasons(1);
        Calls.due("over", x.led(0, 6), 1);
        Calls.due("without fields", x.led(0, 1), 0);
        Calls.due("field of none", x.look(0, 10), -1);
        Calls.due("without a crop", x.look(0, 3), 0);
        Calls.due("its kind stays", x.led(0, 0), 1);
        Calls.due("it has its notice", x.notice(0), false);
        Calls.due("the farm is over by year 1's end", x.led(1, 6), 1);
        Calls.due("its last season stays", x.led(1, 5), 7);
        Calls.due("one goes on", x.count(5), 1);
        Calls.dueKind("it was let", () -> x.give(0));
    }

    private static void giving() {
        GreatEstate x = new GreatEstate();
        x.keep(0, 9, 3, 0, 0);
        Calls.yearly(x, 2, 2, 0, "");
        x.sow(0, 4);
        Calls.due("four fields", x.give(0), 4);
        Calls.due("over", x.led(0, 6), 1);
        Calls.due("none", x.led(0, 1), 0);
        Calls.due("crop", x.look(0, 3), 0);
        Calls.due("holder", x.look(9, 10), -1);
        Calls.due("again", x.give(0), 0);
        Calls.due("its kind stays", x.led(0, 0), 3);
        Calls.dueKind("it is let", () -> x.give(1));
        Calls.dueIndex("none such", () -> x.give(2));
        Calls.dueIndex("-1", () -> x.give(-1));
        Calls.due("a new one", x.keep(0, 9, 4, 0, 0), 2);
        Calls.due("of a mine", x.give(2), 4);
        Calls.due("cottage", x.keep(0, 0, 5, 100, 0), 3);
        Calls.due("of a cottage", x.give(3), 1);
        x.seasons(4);
        Calls.due("one given up pays nothing", x.count(2), 0);
    }

    private static void ledRefuses() {
        GreatEstate x = new GreatEstate();
        Calls.dueIndex("led 0 ahead of what", () -> x.led(0, 11));
        x.keep(0, 0, 2, 0, 0);
        Calls.dueIndex("led -1", () -> x.led(-1, 0));
        Calls.dueIndex("led 1", () -> x.led(1, 0));
        Calls.dueNoSuch("what 11", () -> x.led(0, 11));
        Calls.dueNoSuch("what -1", () -> x.led(0, -1));
    }
}
