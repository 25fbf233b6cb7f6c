import java.util.ArrayList;
import java.util.List;
import java.util.Random;

/** Many runs of calls by told seeds, each call answered by the class and by Naive. */
public final class NaiveTest {
    interface Call {
        int on(Naive naive);
    }

    private static final int RUNS = 900;
    private static final int CALLS = 400;
    private static final int MOST_CALLS = 512;

    private final Random random;
    private final boolean tame;
    private final boolean great;
    private GreatEstate real = new GreatEstate();
    private int calls = 0;
    private final List<Calls.Call> done = new ArrayList<>();
    private Naive naive = new Naive();
    private String tape = "";
    private int fault = -1;
    private List<Call> history = new ArrayList<>();
    private List<Call> image = null;
    private final List<String> told = new ArrayList<>();

    private NaiveTest(int seed) {
        random = new Random(seed);
        tame = seed % 3 != 0;
        great = seed % 7 == 4;
    }

    public static void main(String[] args) {
        int runs = args.length > 0 ? Integer.parseInt(args[0]) : RUNS;
        int from = args.length > 1 ? Integer.parseInt(args[1]) : 0;
        for (int seed = from; seed < from + runs; seed++) {
            NaiveTest test = new NaiveTest(seed);
            if (!test.run()) {
                System.out.println("seed " + seed + ":");
                test.told.forEach(System.out::println);
                System.exit(1);
            }
        }
        System.out.println(runs + " runs as Naive has them");
    }

    private boolean run() {
        int last = 60 + random.nextInt(CALLS - 60);
        while (calls < last) {
            if (!one()) {
                return false;
            }
        }
        return sameInAll();
    }

    private boolean ask(String name, Calls.Call call, Call naiveCall) {
        String got = Calls.outcome(call);
        String due;
        history.add(naiveCall);
        did(call, 1);
        try {
            due = String.valueOf(naiveCall.on(naive));
        } catch (Naive.Wrong e) {
            due = "IllegalArgumentException";
        } catch (RuntimeException e) {
            due = e.getClass().getSimpleName();
        }
        told.add("  " + name + " = " + got);
        if (!got.equals(due)) {
            told.add("  due is " + due);
        }
        return got.equals(due);
    }

    private void did(Calls.Call call, int howMany) {
        done.add(call);
        calls += howMany;
    }

    /** What is asked of the whole goes beyond 512 calls: the run is done anew on as many objects as it takes. */
    private boolean sameInAll() {
        List<Question> questions = questions();
        int each = MOST_CALLS - calls;
        for (int i = 0; i < questions.size(); i++) {
            if (i % each == 0) {
                real = new GreatEstate();
                done.forEach(Calls::outcome);
            }
            Question question = questions.get(i);
            int got = question.real.answer(real);
            int due = question.naive.on(naive);
            if (got != due) {
                told.add("  " + question.name + " = " + got);
                told.add("  due is " + due);
                return false;
            }
        }
        return true;
    }

    interface RealCall {
        int answer(GreatEstate x);
    }

    record Question(String name, RealCall real, Call naive) {
    }

    private List<Question> questions() {
        List<Question> all = new ArrayList<>();
        for (int what = -1; what < 20; what++) {
            int w = what;
            all.add(new Question("count(" + w + ")", x -> x.count(w), n -> n.count(w)));
        }
        for (int field = 0; field < 48; field++) {
            int f = field;
            for (int what = 0; what < 13; what++) {
                int w = what;
                all.add(new Question("look(" + f + ", " + w + ")", x -> x.look(f, w), n -> n.look(f, w)));
            }
            for (int row = 0; row < naive.count(17); row++) {
                int i = row;
                all.add(new Question("row(" + i + ", " + f + ")", x -> x.row(i, f), n -> n.row(i, f)));
            }
        }
        for (int holding = 0; holding < naive.count(4); holding++) {
            int h = holding;
            for (int what = 0; what < 11; what++) {
                int w = what;
                all.add(new Question("led(" + h + ", " + w + ")", x -> x.led(h, w), n -> n.led(h, w)));
            }
        }
        return all;
    }

    private int upTo(int most) {
        return random.nextInt(most + 1);
    }

    /** A number within bounds, mostly; now and then just beyond them, or far. */
    private int number(int least, int most) {
        int kind = random.nextInt(tame ? 400 : 60);
        switch (kind) {
            case 0:
                return least - 1;
            case 1:
                return most + 1;
            case 2:
                return random.nextInt();
            case 3:
                return random.nextBoolean() ? Integer.MIN_VALUE : Integer.MAX_VALUE;
            case 4:
            case 5:
            case 6:
                return least;
            case 7:
            case 8:
            case 9:
                return most;
            default:
                return least + random.nextInt(most - least + 1);
        }
    }

    private int field() {
        return number(0, 47);
    }

    private int holding() {
        return number(0, Math.max(0, naive.holdings.size() - 1));
    }

    private boolean one() {
        int pick = random.nextInt(100);
        if (pick < 26) {
            return lands();
        }
        if (pick < 62) {
            return holds();
        }
        return pick < 82 ? acts() : others();
    }

    private boolean lands() {
        int a = field();
        switch (random.nextInt(6)) {
            case 0: {
                int b = number(0, 9);
                int c = number(0, 9);
                int d = number(0, 20);
                int e = number(0, 99);
                int f = number(0, 300);
                return ask("field(" + a + ", " + b + ", " + c + ", " + d + ", " + e + ", " + f + ")", () -> Calls.bit(real.field(a, b, c, d, e, f)), n -> n.field(a, b, c, d, e, f));
            }
            case 1: {
                int y = number(0, random.nextBoolean() ? 100 : 10);
                int b = number(-5, 5);
                boolean is = random.nextInt(3) > 0;
                return ask("rain(" + y + ", " + b + ", " + is + ")", () -> rain(y, b, is), n -> n.rain(y, b, is))
                    && ask("fell(" + y + ")", () -> real.fell(y), n -> n.fell(y));
            }
            case 2:
            case 3: {
                int crop = number(1, 4);
                int y = random.nextInt(4) == 0 ? number(0, 100) : Math.min(100, naive.season / 4 + random.nextInt(3));
                int b = great ? 60 + random.nextInt(41) : number(0, random.nextBoolean() ? 100 : 20);
                int s = number(0, 400);
                return ask("price(" + crop + ", " + y + ", " + b + ")", () -> real.price(crop, y, b), n -> n.tell(crop, y, b))
                    && ask("known(" + crop + ", " + y + ", " + s + ")", () -> real.known(crop, y, s), n -> n.known(crop, y, s));
            }
            case 4: {
                int what = number(0, 12);
                return ask("look(" + a + ", " + what + ")", () -> real.look(a, what), n -> n.look(a, what));
            }
            default: {
                int s = number(0, great || random.nextInt(8) == 0 ? 40 : 6);
                return ask("seasons(" + s + ")", () -> real.seasons(s), n -> n.seasons(s)) && sameInSome();
            }
        }
    }

    /** What the seasons have done, by a few questions at hazard. */
    private boolean sameInSome() {
        for (int i = 0; i < 8; i++) {
            int what = random.nextInt(19);
            int field = random.nextInt(48);
            int of = random.nextInt(13);
            int holding = random.nextInt(Math.max(1, naive.holdings.size()));
            int led = random.nextInt(11);
            if (i % 4 == 0 && !ask("count(" + what + ")", () -> real.count(what), n -> n.count(what))
                || i % 4 == 1 && !ask("led(" + holding + ", " + led + ")", () -> real.led(holding, led), n -> n.led(holding, led))
                || i % 4 > 1 && !ask("look(" + field + ", " + of + ")", () -> real.look(field, of), n -> n.look(field, of))) {
                return false;
            }
        }
        return true;
    }

    private int rain(int year, int n, boolean is) {
        real.rain(year, n, is);
        return 0;
    }

    private boolean holds() {
        int a = field();
        int b = random.nextBoolean() ? a : random.nextBoolean() ? Math.floorMod(a + List.of(1, 8, 9, 7, 2, -1, -8).get(random.nextInt(7)), 48) : field();
        int h = holding();
        switch (random.nextInt(13)) {
            case 0:
            case 1:
            case 2: {
                setTape(text(true));
                int years = random.nextBoolean() ? 0 : number(0, random.nextInt(4) == 0 ? 99 : 6);
                int coin = number(0, random.nextBoolean() ? 100000 : 300);
                boolean forced = random.nextBoolean();
                String text = useTape();
                return ask("let(" + a + ", " + b + ", " + years + ", " + coin + ", " + forced + ") of '" + text + "'", () -> real.let(a, b, years, coin, forced), n -> n.let(text, a, b, years, coin, forced)) && sameFault(text, true);
            }
            case 3:
            case 4: {
                int kind = number(2, 5);
                int c = number(0, random.nextBoolean() ? 2000 : 300);
                int d = number(0, 100);
                return ask("keep(" + a + ", " + b + ", " + kind + ", " + c + ", " + d + ")", () -> real.keep(a, b, kind, c, d), n -> n.keep(a, b, kind, c, d));
            }
            case 5:
            case 6: {
                int crop = number(0, 5);
                return ask("sow(" + a + ", " + crop + ")", () -> Calls.bit(real.sow(a, crop)), n -> n.sow(a, crop));
            }
            case 7:
                return ask("notice(" + h + ")", () -> Calls.bit(real.notice(h)), n -> n.notice(h));
            case 8:
                return random.nextInt(3) > 0 || ask("give(" + h + ")", () -> real.give(h), n -> n.give(h));
            case 9:
                return ask("owed(" + h + ")", () -> real.owed(h), n -> n.owed(h));
            case 10:
                return ask("rent(" + h + ")", () -> real.rent(h), n -> n.rent(h));
            case 11: {
                int what = number(0, 10);
                return ask("led(" + h + ", " + what + ")", () -> real.led(h, what), n -> n.led(h, what));
            }
            default: {
                int rank = number(0, 4);
                return ask("arrears(" + rank + ")", () -> real.arrears(rank), n -> n.arrears(rank));
            }
        }
    }

    private boolean acts() {
        int a = field();
        boolean flag = random.nextBoolean();
        switch (random.nextInt(10)) {
            case 0: {
                setTape(text(false));
                int s = random.nextInt(3) == 0 ? number(0, 400) : naive.season + random.nextInt(9);
                String text = useTape();
                return ask("words(" + s + ") of '" + text + "'", () -> real.words(s), n -> n.words(text, s)) && sameFault(text, false);
            }
            case 1: {
                int what = number(0, 9);
                return ask("may(" + what + ", " + a + ")", () -> real.may(what, a), n -> n.may(what, a));
            }
            case 2: {
                int what = number(0, 4);
                return ask("why(" + what + ", " + a + ")", () -> real.why(what, a), n -> n.why(what, a));
            }
            case 3:
            case 4:
                return ask("cut(" + a + ", " + flag + ")", () -> real.cut(a, flag), n -> n.cut(a, flag));
            case 5: {
                int c = number(1, random.nextBoolean() ? 100000 : 500);
                int rate = number(0, 2000);
                int years = number(1, 40);
                int i = number(0, 11);
                return ask("loan(" + c + ", " + rate + ", " + years + ", " + flag + ")", () -> real.loan(c, rate, years, flag), n -> n.loan(c, rate, years, flag))
                    && ask("owing(" + i + ")", () -> real.owing(i), n -> n.owing(i));
            }
            case 6:
            case 7:
                return ask("work(" + a + ", " + flag + ")", () -> Calls.bit(real.work(a, flag)), n -> n.work(a, flag));
            case 8:
                return random.nextBoolean() || ask("sell(" + a + ", " + flag + ")", () -> real.sell(a, flag), n -> n.sell(a, flag));
            default: {
                int c = number(1, 8);
                int coin = number(0, random.nextInt(4) == 0 ? 100000 : 900);
                return ask("toSell(" + a + ", " + c + ", " + coin + ")", () -> real.toSell(a, c, coin), n -> n.toSell(a, c, coin));
            }
        }
    }

    private boolean others() {
        int a = field();
        int coin = number(0, random.nextBoolean() ? 1000000 : 3000);
        int charge = number(0, random.nextInt(4) == 0 ? 100000 : 100);
        switch (random.nextInt(12)) {
            case 0: {
                int b = number(0, random.nextBoolean() ? 100000 : 500);
                int c = number(0, random.nextBoolean() ? 10000 : 30);
                int d = number(0, 29);
                return random.nextBoolean() || ask("job(" + b + ", " + c + ", " + d + ")", () -> real.job(b, c, d), n -> n.job(b, c, d));
            }
            case 1: {
                int b = number(random.nextBoolean() ? -100000 : -50, random.nextBoolean() ? 100000 : 50);
                int c = number(random.nextBoolean() ? -1000 : -5, random.nextBoolean() ? 1000 : 5);
                return random.nextBoolean() || ask("trouble(" + b + ", " + c + ")", () -> real.trouble(b, c), n -> n.trouble(b, c));
            }
            case 2: {
                int set = random.nextBoolean() ? random.nextInt(64) : random.nextInt();
                return ask("worth(" + coin + ", " + charge + ", " + set + ")", () -> real.worth(coin, charge, set), n -> n.worth(coin, charge, set));
            }
            case 3:
                return ask("best(" + coin + ", " + charge + ")", () -> real.best(coin, charge), n -> n.best(coin, charge));
            case 4: {
                int i = number(0, 3);
                return ask("row(" + i + ", " + a + ")", () -> real.row(i, a), n -> n.row(i, a));
            }
            case 5: {
                int i = number(0, 3);
                int mask = random.nextBoolean() ? random.nextInt() : upTo(3);
                return ask("tear(" + i + ", " + a + ", " + mask + ")", () -> real.tear(i, a, mask), n -> n.tear(i, a, mask));
            }
            case 6:
                return ask("check()", () -> real.check(), Naive::check);
            case 7: {
                int i = number(0, 5);
                int what = number(0, 3);
                return ask("wrong(" + i + ", " + what + ")", () -> real.wrong(i, what), n -> n.wrong(i, what));
            }
            case 8:
                return random.nextBoolean() || ask("heir()", () -> real.heir(), Naive::heir);
            case 9:
                return keepImage();
            case 10:
                return goBack();
            default: {
                setTape(text(random.nextBoolean()));
                return true;
            }
        }
    }

    private boolean keepImage() {
        told.add("  image()");
        real.image();
        did(() -> {
            real.image();
            return 0;
        }, 1);
        image = new ArrayList<>(history);
        return true;
    }

    /** All calls up to the image are done anew. */
    private boolean goBack() {
        boolean got = real.back();
        did(() -> Calls.bit(real.back()), 1);
        told.add("  back() = " + got);
        if (got != (image != null)) {
            return false;
        }
        if (image == null) {
            return true;
        }
        naive = new Naive();
        history = new ArrayList<>(image);
        for (Call call : image) {
            Calls.outcome(() -> call.on(naive));
        }
        return true;
    }

    private String text(boolean lease) {
        return great && random.nextInt(3) > 0 ? Phrases.great(random, lease) : Phrases.text(random, lease);
    }

    private void setTape(String text) {
        tape = text;
        Calls.tape(real, text);
        did(() -> {
            Calls.tape(real, text);
            return 0;
        }, 2 + (text.length() + 19) / 20);
    }

    private String useTape() {
        String text = tape;
        tape = "";
        return text;
    }

    /** The call before has just been told: its text was read unless an index or another number was wrong. */
    private boolean sameFault(String text, boolean lease) {
        int due = -1;
        try {
            new Naive.Parser(text).lines(lease);
        } catch (Naive.Wrong e) {
            due = e.at;
        }
        String call = told.get(told.size() - 1);
        boolean throwsNumber = call.endsWith("= IllegalArgumentException");
        boolean throwsIndex = call.endsWith("= IndexOutOfBoundsException");
        int got = real.fault();
        calls += 2;
        told.add("  fault() = " + got + ", of this text " + due + ", ahead " + fault);
        if (real.end(1)) {
            told.add("  the tape was not used up");
            return false;
        }
        boolean right = throwsIndex ? got == fault : throwsNumber ? got == fault || got == due : got == -1;
        fault = got;
        return right;
    }
}
