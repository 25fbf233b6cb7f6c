/** What the tests share: due answers, due exceptions, and texts put on the TAPE. */
final class Calls {
    interface Call {
        long answer();
    }

    private static int wrong = 0;
    private static int asked = 0;
    private static int sentences = 0;
    private static String sentence = "";
    private static int askedAhead = 0;

    private Calls() {
    }

    /** The words of the document that all that is due from here on belong to. */
    static void sentence(String words) {
        needAsked();
        sentences++;
        sentence = words;
        askedAhead = asked;
    }

    private static void needAsked() {
        if (!sentence.isEmpty() && asked == askedAhead) {
            wrong++;
            System.out.println("nothing was asked of: " + sentence);
        }
    }

    private static void tell(String fault) {
        wrong++;
        System.out.println(fault + (sentence.isEmpty() ? "" : "   [" + sentence + "]"));
    }

    static void due(String what, long got, long want) {
        asked++;
        if (got != want) {
            tell(what + " answered " + got + ", due is " + want);
        }
    }

    static void due(String what, boolean got, boolean want) {
        due(what, got ? 1 : 0, want ? 1 : 0);
    }

    static void dueThrow(String what, Class<? extends RuntimeException> want, Call call) {
        asked++;
        String got = outcome(call);
        if (!got.equals(want.getSimpleName())) {
            tell(what + " gave " + got + ", due is " + want.getSimpleName());
        }
    }

    static void dueSame(String what, String got, String want) {
        asked++;
        if (!got.equals(want)) {
            tell(what + " gave " + got + ", due is " + want);
        }
    }

    static void dueIndex(String what, Call call) {
        dueThrow(what, IndexOutOfBoundsException.class, call);
    }

    static void dueNumber(String what, Call call) {
        dueThrow(what, IllegalArgumentException.class, call);
    }

    static void dueKind(String what, Call call) {
        dueThrow(what, ClassCastException.class, call);
    }

    static void dueNoSuch(String what, Call call) {
        dueThrow(what, java.util.NoSuchElementException.class, call);
    }

    static void dueRoom(String what, Call call) {
        dueThrow(what, UnsupportedOperationException.class, call);
    }

    static String outcome(Call call) {
        try {
            return String.valueOf(call.answer());
        } catch (RuntimeException e) {
            return e.getClass().getSimpleName();
        }
    }

    static int bit(boolean is) {
        return is ? 1 : 0;
    }

    /** The TAPE then has this text alone. */
    static void tape(GreatEstate x, String text) {
        x.end(0);
        byte[] bytes = new byte[(text.length() + 19) / 20 * 20];
        for (int i = 0; i < text.length(); i++) {
            bytes[i] = (byte) text.charAt(i);
        }
        for (int i = 0; i < bytes.length; i += 20) {
            x.feed(four(bytes, i), four(bytes, i + 4), four(bytes, i + 8), four(bytes, i + 12), four(bytes, i + 16));
        }
        x.end(text.length());
    }

    private static int four(byte[] bytes, int i) {
        return (bytes[i] & 255) << 24 | (bytes[i + 1] & 255) << 16 | (bytes[i + 2] & 255) << 8 | bytes[i + 3] & 255;
    }

    static int words(GreatEstate x, int season, String text) {
        tape(x, text);
        return x.words(season);
    }

    static int yearly(GreatEstate x, int from, int to, int coin, String lease) {
        tape(x, lease);
        return x.let(from, to, 0, coin, false);
    }

    static int farm(GreatEstate x, int from, int to, int years, int coin, String lease) {
        tape(x, lease);
        return x.let(from, to, years, coin, true);
    }

    static void finish() {
        needAsked();
        System.out.println(asked + " asked" + (sentences > 0 ? " by " + sentences + " sentences" : "") + ", " + wrong + " wrong");
        if (wrong != 0) {
            System.exit(1);
        }
    }
}
