import java.util.List;
import java.util.Random;

/** Texts of leases and acts by chance, mostly right ones. */
final class Phrases {
    private Phrases() {
    }

    private static String one(Random r, String... words) {
        return words[r.nextInt(words.length)];
    }

    private static String gap(Random r) {
        return r.nextInt(6) == 0 ? "  " : " ";
    }

    private static String crop(Random r) {
        return one(r, "wheat", "barley", "turnips", "grass", "fallow");
    }

    private static String number(Random r) {
        switch (r.nextInt(12)) {
            case 0:
                return "0";
            case 1:
                return "999999";
            case 2:
                return String.valueOf(r.nextInt(1000000));
            case 3:
                return "00" + r.nextInt(1000);
            default:
                return String.valueOf(r.nextInt(60));
        }
    }

    private static String hundredths(Random r) {
        return r.nextInt(40) == 0 ? "101" : String.valueOf(r.nextInt(101));
    }

    static String text(Random r, boolean lease) {
        if (r.nextInt(20) == 0) {
            return one(r, "", " ", "    ");
        }
        int lines = r.nextInt(30) == 0 ? 15 + r.nextInt(3) : 1 + r.nextInt(5);
        StringBuilder s = new StringBuilder(r.nextInt(6) == 0 ? " " : "");
        for (int i = 0; i < lines; i++) {
            s.append(i == 0 ? "" : one(r, ";", "; ", " ;")).append(lines > 9 ? shortLine(r, lease) : lease ? leaseLine(r) : actLine(r));
        }
        String text = s.toString();
        if (text.length() > 400) {
            text = text.substring(0, 400);
        }
        return r.nextInt(6) == 0 ? spoil(r, text) : text;
    }

    /** A text by which sums of coin come to their bounds. */
    static String great(Random r, boolean lease) {
        if (!lease) {
            return r.nextInt(3) == 0 ? "charge 999999;charge 999999;part drain 100;borrow 999999;charge 999999 if year<30" : "part drain 100;part lime 100;borrow 999999";
        }
        StringBuilder s = new StringBuilder(one(r, "rent 1", "put 100 if year<9;rent 7", "put 60 if 1<2", "game 100", "waste 999999 if worn>2"));
        for (int i = 0; i < 13; i++) {
            s.append(one(r, ";corn 999999 of wheat", ";corn 999999 of barley", ";owe drain 999999", ";owe drain 999999"));
        }
        return s.toString();
    }

    private static String shortLine(Random r, boolean lease) {
        return lease ? one(r, "rent 3", "waste 1", "game 9", "owe lime 1") : one(r, "sell", "fell", "years 5", "charge 1", "part mine 7", "strike sell");
    }

    private static String spoil(Random r, String text) {
        if (text.isEmpty()) {
            return text;
        }
        int at = r.nextInt(text.length());
        String rest = text.substring(at + 1);
        switch (r.nextInt(4)) {
            case 0:
                return text.substring(0, at);
            case 1:
                return text.substring(0, at) + rest;
            case 2:
                return text.substring(0, at) + (char) r.nextInt(256) + rest;
            default:
                return text.substring(0, at) + one(r, "(", ")", "not ", ";", " or ", "7", "<", "x", " if ", "+") + (text.length() > 390 ? "" : text.substring(at));
        }
    }

    private static String leaseLine(Random r) {
        String g = gap(r);
        switch (r.nextInt(9)) {
            case 0:
            case 1:
                return "rent" + g + number(r) + maybe(r);
            case 2:
                return "corn" + g + r.nextInt(30) + g + "of" + g + crop(r);
            case 3:
                return "bar " + crop(r) + g + "after" + g + crop(r);
            case 4:
                return "owe" + g + one(r, "lime", "drain") + " " + number(r);
            case 5:
                return "waste" + g + number(r) + maybe(r);
            case 6:
                return "put " + hundredths(r) + g + "if " + condition(r, 0);
            case 7:
                return "game " + hundredths(r);
            default:
                return "rent" + r.nextInt(400) + "if" + g + condition(r, 0);
        }
    }

    private static String actLine(Random r) {
        String g = gap(r);
        switch (r.nextInt(9)) {
            case 0:
                return "years" + g + r.nextInt(20);
            case 1:
                return "fell" + maybe(r);
            case 2:
                return "borrow" + g + number(r);
            case 3:
            case 4:
                return "sell" + maybe(r);
            case 5:
            case 6:
                return "part" + g + one(r, "lime", "drain", "wood", "mine", "land") + g + hundredths(r);
            case 7:
                return "charge" + g + number(r) + maybe(r);
            default:
                return "strike" + g + one(r, "years", "fell", "borrow", "sell", "part", "charge");
        }
    }

    private static String maybe(Random r) {
        return r.nextBoolean() ? "" : gap(r) + "if" + gap(r) + condition(r, 0);
    }

    private static String condition(Random r, int deep) {
        StringBuilder s = new StringBuilder(atom(r, deep));
        for (int more = r.nextInt(10) - 6; more > 0; more--) {
            s.append(one(r, " and ", " or ")).append(atom(r, deep));
        }
        return s.toString();
    }

    private static String atom(Random r, int deep) {
        if (r.nextInt(4) == 0 && deep < 7) {
            return r.nextBoolean() ? "not " + atom(r, deep + 1) : "(" + condition(r, deep + 1) + ")";
        }
        return sum(r) + one(r, "<", ">", " < ", " > ") + sum(r);
    }

    private static String sum(Random r) {
        StringBuilder s = new StringBuilder(part(r));
        for (int more = r.nextInt(6) - 3; more > 0; more--) {
            s.append(one(r, "+", " + ")).append(part(r));
        }
        return s.toString();
    }

    private static String part(Random r) {
        List<String> facts = Naive.FACTS;
        return r.nextBoolean() ? facts.get(r.nextInt(facts.size())) : String.valueOf(r.nextInt(r.nextInt(5) == 0 ? 1000 : 25));
    }
}
