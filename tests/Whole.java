import java.util.ArrayList;
import java.util.List;

/**
 * All that a run of calls has made, told by what every question answers then. No object is asked beyond its 512 calls:
 * the run is done anew on another one (so a run has 300 calls at most).
 */
final class Whole {
    interface Run {
        void on(GreatEstate x);
    }

    interface Ask {
        long of(GreatEstate x);
    }

    private static final int EACH = 200;
    private static final List<Ask> QUESTIONS = questions();

    private Whole() {
    }

    /** All but the TAPE and fault(). */
    static String of(Run run) {
        StringBuilder s = new StringBuilder();
        GreatEstate x = new GreatEstate();
        for (int i = 0; i < QUESTIONS.size(); i++) {
            if (i % EACH == 0) {
                x = new GreatEstate();
                run.on(x);
            }
            GreatEstate asked = x;
            Ask question = QUESTIONS.get(i);
            s.append(Calls.outcome(() -> question.of(asked))).append(' ');
        }
        return s.toString();
    }

    /** All, also what two years more make of it: by that the words of leases and what a summer left show themselves. */
    static String andThen(Run run) {
        return of(run) + of(x -> {
            run.on(x);
            x.seasons(8);
        });
    }

    /** How many bytes the TAPE has, and what words() make of it. */
    static String tape(Run run) {
        GreatEstate x = new GreatEstate();
        run.on(x);
        int bytes = bytesOf(x);
        String read = Calls.outcome(() -> x.words(400));
        return bytes + " bytes, read as " + read + ", fault " + x.fault() + ", texts " + x.count(8);
    }

    private static int bytesOf(GreatEstate x) {
        int more = x.feed(0, 0, 0, 0, 0);
        if (more >= 0) {
            x.end(more - 20);
            return more - 20;
        }
        int bytes = 400;
        while (!x.end(bytes)) {
            bytes--;
        }
        return bytes;
    }

    private static List<Ask> questions() {
        List<Ask> all = new ArrayList<>();
        for (int what = -1; what <= 19; what++) {
            int w = what;
            all.add(x -> x.count(w));
        }
        for (int field = 0; field < 48; field++) {
            addField(all, field);
        }
        for (int holding = 0; holding < 24; holding++) {
            addHolding(all, holding);
        }
        for (int n = 0; n < 13; n++) {
            int i = n;
            all.add(x -> x.owing(i));
            all.add(x -> x.arrears(i));
            for (int what = 0; what < 4; what++) {
                int w = what;
                all.add(x -> x.wrong(i, w));
            }
        }
        addMarket(all);
        addPlans(all);
        return all;
    }

    private static void addField(List<Ask> all, int field) {
        for (int what = 0; what < 13; what++) {
            int w = what;
            all.add(x -> x.look(field, w));
        }
        for (int i = 0; i < 4; i++) {
            int row = i;
            all.add(x -> x.row(row, field));
        }
        if (field % 9 == 0) {
            for (int what = 0; what < 10; what++) {
                int w = what;
                all.add(x -> x.may(w, field));
                all.add(x -> x.why(w % 5, field));
            }
        }
    }

    private static void addHolding(List<Ask> all, int holding) {
        for (int what = 0; what < 11; what++) {
            int w = what;
            all.add(x -> x.led(holding, w));
        }
        all.add(x -> x.owed(holding));
        all.add(x -> x.rent(holding));
    }

    private static void addMarket(List<Ask> all) {
        for (int year = 0; year <= 100; year += year < 6 ? 1 : 47) {
            int y = year;
            all.add(x -> x.fell(y));
            for (int crop = 1; crop <= 4; crop++) {
                int c = crop;
                all.add(x -> x.known(c, y, 3));
                all.add(x -> x.known(c, y, 400));
            }
        }
    }

    private static void addPlans(List<Ask> all) {
        for (int bit = 0; bit < 7; bit++) {
            int set = 1 << bit;
            all.add(x -> x.worth(100000, 1, set));
        }
        all.add(x -> x.best(1000, 1));
        all.add(x -> x.toSell(0, 8, 300));
        all.add(x -> x.toSell(40, 8, 300));
        all.add(GreatEstate::check);
    }
}
