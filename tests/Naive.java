import java.util.ArrayList;
import java.util.HashMap;
import java.util.List;
import java.util.Map;
import java.util.NoSuchElementException;
import java.util.TreeMap;
import java.util.regex.Matcher;
import java.util.regex.Pattern;

/**
 * The document once more, told slowly and with all of the Java library, to hold the class against. It knows no TAPE
 * (a text is handed to it) and no image (NaiveTest does all calls anew instead).
 */
final class Naive {
    static final List<String> CROPS = List.of("none", "wheat", "barley", "turnips", "grass", "fallow");
    static final List<String> THINGS = List.of("lime", "drain", "wood", "mine", "land");
    static final List<String> STRUCK = List.of("years", "fell", "borrow", "sell", "part", "charge");
    static final List<String> FACTS = List.of("year", "wheat", "barley", "turnips", "grass", "age", "worn", "wet", "soil", "coin", "arrears");

    /** A text is wrong at a byte. */
    static final class Wrong extends RuntimeException {
        private static final long serialVersionUID = 1L;
        final int at;

        Wrong(int at) {
            this.at = at;
        }
    }

    interface Cond {
        boolean holds(Map<String, Integer> facts);
    }

    static final class Line {
        String verb;
        int number;
        String first = "";
        String second = "";
        Cond cond = facts -> true;
    }

    static final class Parser {
        final List<String> tokens = new ArrayList<>();
        final List<Integer> starts = new ArrayList<>();
        int i = 0;

        Parser(String text) {
            Matcher m = Pattern.compile("[a-z]+|[0-9]+|[^ ]", Pattern.DOTALL).matcher(text);
            while (m.find()) {
                tokens.add(m.group());
                starts.add(m.start());
            }
            tokens.add("");
            starts.add(text.length());
        }

        String peek() {
            return tokens.get(i);
        }

        Wrong wrong() {
            return new Wrong(starts.get(i));
        }

        String oneOf(List<String> words) {
            if (peek().isEmpty() || !words.contains(peek())) {
                throw wrong();
            }
            return tokens.get(i++);
        }

        int number(int most) {
            if (!peek().matches("[0-9]{1,6}") || Integer.parseInt(peek()) > most) {
                throw wrong();
            }
            return Integer.parseInt(tokens.get(i++));
        }

        List<Line> lines(boolean lease) {
            List<Line> all = new ArrayList<>();
            if (peek().isEmpty()) {
                return all;
            }
            while (true) {
                if (all.size() == 16) {
                    throw wrong();
                }
                all.add(line(lease));
                if (peek().isEmpty()) {
                    return all;
                }
                oneOf(List.of(";"));
            }
        }

        Line line(boolean lease) {
            Line line = new Line();
            line.verb = oneOf(lease ? List.of("rent", "corn", "bar", "owe", "waste", "put", "game")
                : List.of("years", "fell", "borrow", "sell", "part", "charge", "strike"));
            List<String> crops = CROPS.subList(1, 6);
            if (line.verb.equals("bar")) {
                line.first = oneOf(crops);
                oneOf(List.of("after"));
                line.second = oneOf(crops);
            }
            if (line.verb.equals("owe")) {
                line.first = oneOf(THINGS.subList(0, 2));
            }
            if (line.verb.equals("part")) {
                line.first = oneOf(THINGS);
            }
            if (line.verb.equals("strike")) {
                line.first = oneOf(STRUCK);
            }
            if (!List.of("bar", "strike", "fell", "sell").contains(line.verb)) {
                line.number = number(List.of("part", "put", "game").contains(line.verb) ? 100 : 999999);
            }
            if (line.verb.equals("corn")) {
                oneOf(List.of("of"));
                line.first = oneOf(crops);
            }
            boolean mayIf = List.of("rent", "waste", "fell", "sell", "charge").contains(line.verb) && peek().equals("if");
            if (mayIf || line.verb.equals("put")) {
                oneOf(List.of("if"));
                line.cond = any(0);
            }
            return line;
        }

        Cond any(int deep) {
            Cond a = all(deep);
            if (!peek().equals("or")) {
                return a;
            }
            i++;
            Cond b = any(deep);
            return f -> a.holds(f) || b.holds(f);
        }

        Cond all(int deep) {
            Cond a = atom(deep);
            if (!peek().equals("and")) {
                return a;
            }
            i++;
            Cond b = all(deep);
            return f -> a.holds(f) && b.holds(f);
        }

        Cond atom(int deep) {
            if (peek().equals("not") || peek().equals("(")) {
                if (deep == 6) {
                    throw wrong();
                }
                if (tokens.get(i++).equals("not")) {
                    Cond a = atom(deep + 1);
                    return f -> !a.holds(f);
                }
                Cond a = any(deep + 1);
                oneOf(List.of(")"));
                return a;
            }
            List<String> left = sum();
            boolean less = oneOf(List.of("<", ">")).equals("<");
            List<String> right = sum();
            return f -> less ? value(left, f) < value(right, f) : value(left, f) > value(right, f);
        }

        List<String> sum() {
            List<String> parts = new ArrayList<>();
            do {
                if (!parts.isEmpty()) {
                    i++;
                }
                if (!peek().matches("[0-9]{1,6}") && !FACTS.contains(peek())) {
                    throw wrong();
                }
                parts.add(tokens.get(i++));
            } while (peek().equals("+"));
            return parts;
        }

        static long value(List<String> parts, Map<String, Integer> facts) {
            return parts.stream().mapToLong(p -> facts.containsKey(p) ? facts.get(p) : Long.parseLong(p)).sum();
        }
    }

    static final class Plot {
        int soil = 5, wet, worn, crop, drain, lime, game, age, sunk, harvest, holding = -1, ate, ateCrop;
        boolean sold;

        int worth() {
            int ground = 20 * soil + 100 - 5 * worn - (drain > 0 ? 0 : 10 * wet) - 30 * sunk;
            return (ground < 10 ? 10 : ground) + age * age;
        }

        int grows(int what, int rain) {
            if (what == 0 || what == 5) {
                return 0;
            }
            int n = 9 - what + soil + rain;
            if (lime > 0) {
                n += 2;
            }
            n -= worn / 2;
            n -= drain > 0 ? wet / 3 : wet;
            n -= 2 * sunk;
            return n < 0 ? 0 : n;
        }
    }

    static final class Holding {
        int kind, number, other, last = -1;
        long coin, arrears, put, paid, tons, out;
        boolean notice;
        List<Line> lease = new ArrayList<>();
        List<Integer> fields = new ArrayList<>();

        boolean let() {
            return kind < 2;
        }
    }

    record Act(int season, List<Line> lines) {
    }

    record Telling(int crop, int year, int n, int season) {
    }

    record Debt(int n, int rate, int years, int[] left) {
    }

    record Job(int cost, int brings, int year) {
    }

    int season;
    final Plot[] plots = new Plot[48];
    final Map<Integer, Integer> rains = new TreeMap<>();
    final List<Telling> tellings = new ArrayList<>();
    final List<Holding> holdings = new ArrayList<>();
    final List<Act> acts = new ArrayList<>();
    final List<Debt> debts = new ArrayList<>();
    final List<int[]> wrongs = new ArrayList<>();
    final List<Job> jobs = new ArrayList<>();
    final List<int[]> troubles = new ArrayList<>();
    final List<int[][]> rows = new ArrayList<>();
    long income, capital, harvests, charges, paidOut;
    int reigns;

    Naive() {
        for (int i = 0; i < 48; i++) {
            plots[i] = new Plot();
        }
    }

    static long cap(long n) {
        return n > 2000000000L ? 2000000000L : n < -2000000000L ? -2000000000L : n;
    }

    void index(int i, int n) {
        if (i < 0 || i >= n) {
            throw new IndexOutOfBoundsException();
        }
    }

    void number(boolean right) {
        if (!right) {
            throw new IllegalArgumentException();
        }
    }

    void kind(boolean right) {
        if (!right) {
            throw new ClassCastException();
        }
    }

    void such(boolean right) {
        if (!right) {
            throw new NoSuchElementException();
        }
    }

    static boolean in(int n, int least, int most) {
        return least <= n && n <= most;
    }

    List<Integer> beside(int field) {
        List<Integer> all = new ArrayList<>();
        for (int other = 0; other < 48; other++) {
            int dx = Math.abs(field % 8 - other % 8);
            int dy = Math.abs(field / 8 - other / 8);
            if (dx + dy == 1) {
                all.add(other);
            }
        }
        return all;
    }

    List<Integer> rectangle(int from, int to) {
        List<Integer> all = new ArrayList<>();
        for (int field = 0; field < 48; field++) {
            boolean across = (field % 8 - from % 8) * (field % 8 - to % 8) <= 0;
            boolean down = (field / 8 - from / 8) * (field / 8 - to / 8) <= 0;
            if (across && down) {
                all.add(field);
            }
        }
        return all;
    }

    int price(int crop, int year, int at) {
        int n = crop == 0 || crop == 5 ? 0 : 10;
        for (Telling t : tellings) {
            if (t.crop == crop && t.year == year && t.season <= at) {
                n = t.n;
            }
        }
        return n;
    }

    int priceNow(int crop) {
        return price(crop, season / 4, season);
    }

    int rain(int year) {
        if (rains.containsKey(year) && rains.get(year) == null) {
            Integer a = rains.get(year - 1);
            Integer b = rains.get(year + 1);
            return ((a == null ? 0 : a) + (b == null ? 0 : b)) / 2;
        }
        return rains.getOrDefault(year, 0);
    }

    Map<String, Integer> facts(Holding tenant, Plot plot) {
        Map<String, Integer> facts = new HashMap<>();
        facts.put("year", season / 4);
        for (int crop = 1; crop < 5; crop++) {
            facts.put(CROPS.get(crop), priceNow(crop));
        }
        facts.put("age", plot == null ? 0 : plot.age);
        facts.put("worn", plot == null ? 0 : plot.worn);
        facts.put("wet", plot == null ? 0 : plot.wet);
        facts.put("soil", plot == null ? 0 : plot.soil);
        facts.put("coin", (int) (tenant == null ? income : tenant.coin));
        facts.put("arrears", (int) (tenant == null ? 0 : tenant.arrears));
        return facts;
    }

    /** The lines in force, each with its number for why(). */
    Map<Line, Integer> inForce() {
        List<Act> order = new ArrayList<>();
        for (int at = 0; at <= season; at++) {
            for (Act act : acts) {
                if (act.season == at) {
                    order.add(act);
                }
            }
        }
        Map<Line, Integer> all = new java.util.LinkedHashMap<>();
        for (Act act : order) {
            for (Line strike : act.lines) {
                if (strike.verb.equals("strike")) {
                    all.keySet().removeIf(line -> line.verb.equals(strike.first) && !act.lines.contains(line));
                }
            }
            for (Line line : act.lines) {
                all.put(line, 16 * acts.indexOf(act) + act.lines.indexOf(line));
            }
        }
        return all;
    }

    Line last(String verb, String first) {
        Line found = null;
        for (Line line : inForce().keySet()) {
            if (line.verb.equals(verb) && line.first.equals(first)) {
                found = line;
            }
        }
        return found;
    }

    int lastNumber(String verb, String first) {
        Line line = last(verb, first);
        return line == null ? 0 : line.number;
    }

    Line firstThatHolds(String verb, Plot plot) {
        for (Line line : inForce().keySet()) {
            if (line.verb.equals(verb) && line.cond.holds(facts(null, plot))) {
                return line;
            }
        }
        return null;
    }

    int chargesNow() {
        int sum = 0;
        for (Line line : inForce().keySet()) {
            sum += line.verb.equals("charge") && line.cond.holds(facts(null, null)) ? line.number : 0;
        }
        return sum;
    }

    void comes(String thing, long coins) {
        long part = coins * lastNumber("part", thing) / 100;
        capital = cap(capital + part);
        income = cap(income + coins - part);
    }

    // ---- the calls

    int field(int field, int soil, int wet, int worn, int game, int age) {
        index(field, 48);
        number(in(soil, 0, 9) && in(wet, 0, 9) && in(worn, 0, 20) && in(game, 0, 99) && in(age, 0, 300));
        Plot p = plots[field];
        if (p.sold) {
            return 0;
        }
        p.soil = soil;
        p.wet = wet;
        p.worn = worn;
        p.game = game;
        p.age = age;
        return 1;
    }

    int rain(int year, int n, boolean is) {
        number(in(year, 0, 100) && (!is || in(n, -5, 5)));
        rains.put(year, is ? n : null);
        return 0;
    }

    int fell(int year) {
        number(in(year, 0, 100));
        return rain(year);
    }

    int tell(int crop, int year, int n) {
        number(in(crop, 1, 4) && in(year, 0, 100) && in(n, 0, 100));
        if (tellings.size() == 200) {
            return -1;
        }
        tellings.add(new Telling(crop, year, n, season));
        return tellings.size();
    }

    int known(int crop, int year, int at) {
        number(in(crop, 1, 4) && in(year, 0, 100));
        return price(crop, year, at);
    }

    boolean free(int from, int to) {
        return holdings.size() < 24 && rectangle(from, to).stream().noneMatch(f -> plots[f].sold || plots[f].holding >= 0);
    }

    int open(Holding h, int from, int to) {
        holdings.add(h);
        h.fields.addAll(rectangle(from, to));
        h.fields.forEach(f -> plots[f].holding = holdings.size() - 1);
        return holdings.size() - 1;
    }

    int let(String text, int from, int to, int years, int coin, boolean forced) {
        index(from, 48);
        index(to, 48);
        number(in(years, 0, 99) && in(coin, 0, 100000));
        Holding h = new Holding();
        h.lease = new Parser(text).lines(true);
        h.kind = years == 0 ? 1 : 0;
        h.coin = coin;
        h.last = years == 0 ? -1 : season - season % 4 + 4 * years - 1;
        boolean may = years == 0 || last("years", "") != null && years <= last("years", "").number;
        if (!free(from, to) || !may && !forced) {
            return -1;
        }
        if (!may) {
            wrongs.add(new int[] {0, 0, season, reigns});
        }
        return open(h, from, to);
    }

    int keep(int from, int to, int kind, int number, int other) {
        index(from, 48);
        index(to, 48);
        number(in(kind, 2, 5));
        number(kind != 4 || in(number, 0, 2000) && in(other, 0, 100));
        number(kind != 5 || in(number, 0, 1000));
        if (!free(from, to)) {
            return -1;
        }
        Holding h = new Holding();
        h.kind = kind;
        h.number = number;
        h.other = other;
        return open(h, from, to);
    }

    int kindAt(int field) {
        return plots[field].holding < 0 ? -1 : holdings.get(plots[field].holding).kind;
    }

    int sow(int field, int crop) {
        index(field, 48);
        number(in(crop, 0, 5));
        kind(in(kindAt(field), 2, 3));
        boolean other = plots[field].crop != crop;
        plots[field].crop = crop;
        return other ? 1 : 0;
    }

    int notice(int holding) {
        index(holding, holdings.size());
        kind(holdings.get(holding).kind == 1);
        boolean had = holdings.get(holding).notice;
        holdings.get(holding).notice = true;
        return had ? 0 : 1;
    }

    int give(int holding) {
        index(holding, holdings.size());
        kind(!holdings.get(holding).let());
        return empty(holdings.get(holding));
    }

    int empty(Holding h) {
        int n = h.fields.size();
        for (int f : h.fields) {
            plots[f].holding = -1;
            plots[f].crop = 0;
        }
        h.fields.clear();
        return n;
    }

    int look(int field, int what) {
        index(field, 48);
        such(in(what, 0, 12));
        Plot p = plots[field];
        return List.of(p.soil, p.wet, p.worn, p.crop, p.drain, p.lime, p.game, p.age, p.sunk, p.harvest, p.holding, p.sold ? 1 : 0, p.worth()).get(what);
    }

    int led(int holding, int what) {
        index(holding, holdings.size());
        such(in(what, 0, 10));
        Holding h = holdings.get(holding);
        return List.of((long) h.kind, (long) h.fields.size(), h.coin, h.arrears, h.put, (long) h.last, h.fields.isEmpty() ? 1L : 0L, h.paid, h.tons, h.out, h.notice ? 1L : 0L).get(what).intValue();
    }

    int owed(int holding) {
        index(holding, holdings.size());
        kind(holdings.get(holding).let());
        return owedTo(holdings.get(holding));
    }

    int owedTo(Holding h) {
        long sum = 0;
        for (Line line : h.lease) {
            for (int f : h.fields) {
                if (line.verb.equals("owe")) {
                    sum += (long) line.number * (line.first.equals("lime") ? plots[f].lime : plots[f].drain);
                }
                if (line.verb.equals("waste") && line.cond.holds(facts(h, plots[f]))) {
                    sum -= line.number;
                }
            }
        }
        return (int) cap(sum < 0 ? 0 : sum);
    }

    int rent(int holding) {
        index(holding, holdings.size());
        kind(holdings.get(holding).let());
        return (int) rentOf(holdings.get(holding));
    }

    long rentOf(Holding h) {
        long sum = 0;
        for (Line line : h.lease) {
            if (line.verb.equals("rent") && line.cond.holds(facts(h, null))) {
                sum += line.number;
            }
            if (line.verb.equals("corn")) {
                sum += (long) line.number * priceNow(CROPS.indexOf(line.first));
            }
        }
        return sum;
    }

    int arrears(int n) {
        List<Integer> all = new ArrayList<>();
        for (int i = 0; i < holdings.size(); i++) {
            if (holdings.get(i).arrears > 0) {
                all.add(i);
            }
        }
        all.sort((a, b) -> Long.compare(holdings.get(b).arrears, holdings.get(a).arrears));
        return n < 0 || n >= all.size() ? -1 : all.get(n);
    }

    int words(String text, int from) {
        number(in(from, season, 400));
        List<Line> lines = new Parser(text).lines(false);
        if (acts.size() == 12) {
            throw new UnsupportedOperationException();
        }
        acts.add(new Act(from, lines));
        return lines.size();
    }

    int may(int what, int field) {
        index(field, 48);
        such(in(what, 0, 9));
        return switch (what) {
            case 0 -> lastNumber("years", "");
            case 1 -> firstThatHolds("fell", plots[field]) == null ? 0 : 1;
            case 2 -> lastNumber("borrow", "");
            case 3 -> firstThatHolds("sell", plots[field]) == null ? 0 : 1;
            case 4 -> chargesNow();
            default -> lastNumber("part", THINGS.get(what - 5));
        };
    }

    int why(int what, int field) {
        index(field, 48);
        such(in(what, 0, 4));
        Line line = switch (what) {
            case 0 -> last("years", "");
            case 1 -> firstThatHolds("fell", plots[field]);
            case 2 -> last("borrow", "");
            case 3 -> firstThatHolds("sell", plots[field]);
            default -> firstThatHolds("charge", null);
        };
        return line == null ? -1 : inForce().get(line);
    }

    int cut(int field, boolean forced) {
        index(field, 48);
        kind(kindAt(field) == 3);
        int coins = plots[field].age * plots[field].age;
        if (firstThatHolds("fell", plots[field]) == null) {
            if (!forced) {
                return -1;
            }
            wrongs.add(new int[] {1, coins, season, reigns});
        }
        comes("wood", coins);
        plots[field].age = 0;
        return coins;
    }

    long owedOnLoans() {
        return debts.stream().mapToLong(d -> d.left[0]).sum();
    }

    int loan(int n, int rate, int years, boolean forced) {
        number(in(n, 1, 100000) && in(rate, 0, 2000) && in(years, 1, 40));
        if (debts.size() == 12) {
            throw new UnsupportedOperationException();
        }
        if (owedOnLoans() + n > lastNumber("borrow", "")) {
            if (!forced) {
                return -1;
            }
            wrongs.add(new int[] {2, n, season, reigns});
        }
        debts.add(new Debt(n, rate, years, new int[] {n}));
        capital = cap(capital + n);
        return debts.size() - 1;
    }

    int owing(int loan) {
        index(loan, debts.size());
        return debts.get(loan).left[0];
    }

    int work(int field, boolean lime) {
        index(field, 48);
        int coins = lime ? 8 : 30;
        int part = coins * lastNumber("part", lime ? "lime" : "drain") / 100;
        boolean enough = (part == 0 || capital >= part) && (part == coins || income >= coins - part);
        if (plots[field].sold || !enough) {
            return 0;
        }
        capital -= part;
        income -= coins - part;
        if (lime) {
            plots[field].lime = 6;
        } else {
            plots[field].drain = 20;
        }
        return 1;
    }

    int sell(int field, boolean forced) {
        index(field, 48);
        Plot p = plots[field];
        boolean may = firstThatHolds("sell", p) != null;
        if (p.sold || p.holding >= 0 || !may && !forced) {
            return -1;
        }
        if (!may) {
            wrongs.add(new int[] {3, p.worth(), season, reigns});
        }
        comes("land", p.worth());
        p.sold = true;
        return p.worth();
    }

    int heir() {
        int coins = (int) (income > 0 ? income : 0);
        income -= coins;
        paidOut = cap(paidOut + coins);
        reigns++;
        return coins;
    }

    int wrong(int n, int what) {
        such(in(n, 0, Math.min(60, wrongs.size()) - 1) && in(what, 0, 3));
        return wrongs.get(n)[what];
    }

    int job(int cost, int brings, int year) {
        number(in(cost, 0, 100000) && in(brings, 0, 10000) && in(year, 0, 29));
        if (jobs.size() == 6) {
            return -1;
        }
        jobs.add(new Job(cost, brings, year));
        return jobs.size();
    }

    int trouble(int first, int change) {
        number(in(first, -100000, 100000) && in(change, -1000, 1000));
        if (troubles.size() == 4) {
            return -1;
        }
        troubles.add(new int[] {first, change});
        return troubles.size();
    }

    int worth(int coin, int charge, int set) {
        number(in(coin, 0, 1000000) && in(charge, 0, 100000));
        List<int[]> all = troubles.isEmpty() ? List.of(new int[] {0, 0}) : troubles;
        int least = Integer.MAX_VALUE;
        for (int[] trouble : all) {
            int left = coin;
            int income = trouble[0];
            for (int year = 0; year < 30; year++) {
                left += income;
                income += trouble[1];
                for (int i = 0; i < jobs.size(); i++) {
                    if ((set & 1 << i) != 0 && year > jobs.get(i).year) {
                        left += jobs.get(i).brings;
                    }
                }
                left -= charge;
                for (int i = 0; i < jobs.size(); i++) {
                    if ((set & 1 << i) != 0 && year == jobs.get(i).year) {
                        left -= jobs.get(i).cost;
                    }
                }
                if (left < 0) {
                    return -1000000000;
                }
            }
            least = Math.min(least, left);
        }
        return least;
    }

    int best(int coin, int charge) {
        number(in(coin, 0, 1000000) && in(charge, 0, 100000));
        List<Integer> sets = new ArrayList<>();
        for (int set = 0; set < 1 << jobs.size(); set++) {
            if (worth(coin, charge, set) != -1000000000) {
                sets.add(set);
            }
        }
        sets.sort((a, b) -> {
            int byWorth = Integer.compare(worth(coin, charge, b), worth(coin, charge, a));
            return byWorth != 0 ? byWorth : Integer.compare(Integer.bitCount(a), Integer.bitCount(b));
        });
        return sets.isEmpty() ? -1 : sets.get(0);
    }

    int toSell(int from, int n, int coin) {
        index(from, 48);
        number(in(n, 1, 8) && from + n <= 48 && in(coin, 0, 100000));
        long bestKey = Long.MAX_VALUE;
        for (int set = 0; set < 1 << n; set++) {
            List<Integer> sold = new ArrayList<>();
            for (int i = 0; i < n; i++) {
                if ((set & 1 << i) != 0) {
                    sold.add(from + i);
                }
            }
            int worth = sold.stream().mapToInt(f -> plots[f].worth()).sum();
            boolean may = sold.stream().allMatch(f -> !plots[f].sold && firstThatHolds("sell", plots[f]) != null);
            if (!may || worth < coin) {
                continue;
            }
            long pairs = 0;
            for (int a = 0; a < 48; a++) {
                for (int b : beside(a)) {
                    if (a < b && !plots[a].sold && !plots[b].sold && sold.contains(a) != sold.contains(b)) {
                        pairs++;
                    }
                }
            }
            bestKey = Math.min(bestKey, (pairs * 10000000L + worth) * 256 + set);
        }
        return bestKey == Long.MAX_VALUE ? -1 : (int) (bestKey % 256);
    }

    int row(int i, int field) {
        index(field, 48);
        such(in(i, 0, rows.size() - 1));
        return rows.get(i)[0][field];
    }

    int tear(int i, int field, int mask) {
        index(field, 48);
        such(in(i, 0, rows.size() - 1));
        return rows.get(i)[0][field] ^= mask;
    }

    int check() {
        for (int i = 0; i < rows.size(); i++) {
            for (int field = 0; field < 48; field++) {
                if (rows.get(i)[0][field] != rows.get(i)[1][field]) {
                    return 48 * i + field;
                }
            }
        }
        return -1;
    }

    int count(int what) {
        long open = holdings.stream().filter(h -> !h.fields.isEmpty()).count();
        long arrears = cap(holdings.stream().mapToLong(h -> h.arrears).sum());
        long put = cap(holdings.stream().mapToLong(h -> h.put).sum());
        long sold = java.util.Arrays.stream(plots).filter(p -> p.sold).count();
        long[] all = {season, season / 4, income, capital, holdings.size(), open, arrears, put, acts.size(), inForce().size(),
            debts.size(), owedOnLoans(), reigns, wrongs.size(), sold, harvests, charges, rows.size(), paidOut};
        return what < 0 || what >= all.length ? -1 : (int) all[what];
    }

    // ---- the seasons

    int seasons(int n) {
        number(in(n, 0, 40));
        for (int i = 0; i < n && season < 400; i++) {
            List.<Runnable>of(this::spring, this::summer, this::autumn, this::winter).get(season % 4).run();
            season++;
        }
        return season;
    }

    void spring() {
        for (Plot p : plots) {
            int kind = p.holding < 0 ? 9 : holdings.get(p.holding).kind;
            if (kind > 3) {
                p.crop = 0;
            }
            if (kind < 2) {
                p.crop = choose(p, holdings.get(p.holding).lease);
            }
        }
    }

    int choose(Plot p, List<Line> lease) {
        int best = 5;
        long most = -1;
        for (int crop = 1; crop <= 5; crop++) {
            String name = CROPS.get(crop);
            String after = CROPS.get(p.crop);
            boolean barred = lease.stream().anyMatch(l -> l.verb.equals("bar") && l.first.equals(name) && l.second.equals(after));
            long hope = (long) priceNow(crop) * p.grows(crop, 0);
            if (!barred && hope > most) {
                best = crop;
                most = hope;
            }
        }
        return best;
    }

    void summer() {
        int[][] row = new int[2][48];
        for (int f = 0; f < 48; f++) {
            Plot p = plots[f];
            int grown = p.crop == 0 ? 0 : p.grows(p.crop, rain(season / 4));
            p.ate = Math.min(grown, p.game / 4);
            p.ateCrop = p.crop;
            p.harvest = grown - p.ate;
            row[0][f] = p.harvest;
            row[1][f] = p.harvest;
            int change = List.of(0, 2, 1, -1, -2, -3).get(p.crop);
            p.worn = Math.min(20, Math.max(0, p.worn + change));
            long coins = (long) p.harvest * priceNow(p.crop);
            harvests = cap(harvests + coins);
            if (p.holding >= 0) {
                Holding h = holdings.get(p.holding);
                if (h.let()) {
                    h.coin += coins;
                } else {
                    h.paid = cap(h.paid + coins);
                    income = cap(income + coins);
                }
            }
        }
        rows.add(row);
        if (rows.size() > 4) {
            rows.remove(0);
        }
    }

    void autumn() {
        for (Holding h : holdings) {
            if (h.fields.isEmpty()) {
                continue;
            }
            long pays = 0;
            if (h.kind == 5) {
                pays = h.number;
            }
            if (h.let()) {
                pays = payRent(h);
            }
            h.paid = cap(h.paid + pays);
            income = cap(income + pays);
        }
    }

    long payRent(Holding h) {
        long eaten = h.fields.stream().mapToLong(f -> (long) plots[f].ate * priceNow(plots[f].ateCrop)).sum();
        long hundredths = 0;
        long most = -1;
        for (Line line : h.lease) {
            if (line.verb.equals("game")) {
                hundredths = line.number;
            }
            if (line.verb.equals("put") && line.cond.holds(facts(h, null))) {
                most = Math.max(most, line.number);
            }
        }
        long rent = Math.max(0, rentOf(h) - eaten * hundredths / 100);
        long off = most < 0 ? -h.put : rent * most / 100;
        h.put = cap(h.put + off);
        long owed = h.arrears + rent - off;
        long pays = Math.max(0, Math.min(h.coin, owed));
        h.coin -= pays;
        h.arrears = cap(owed - pays);
        return pays;
    }

    void winter() {
        for (int f = 0; f < 48; f++) {
            Plot p = plots[f];
            if (p.sold) {
                continue;
            }
            if (kindAt(f) == 3) {
                p.game = Math.min(99, (3 * p.game + 1) / 2);
                p.age++;
            } else if (beside(f).stream().anyMatch(b -> kindAt(b) == 3)) {
                p.game = Math.min(99, p.game + 1);
            }
            p.drain -= p.drain > 0 ? 1 : 0;
            p.lime -= p.lime > 0 ? 1 : 0;
        }
        for (Holding h : holdings) {
            if (h.kind == 4 && !h.fields.isEmpty()) {
                for (int ton = 0; ton < h.number; ton++) {
                    h.tons++;
                    if (h.tons % 100 == 0) {
                        Plot p = plots[h.fields.get((int) ((h.tons / 100 - 1) % h.fields.size()))];
                        p.sunk = Math.min(9, p.sunk + 1);
                    }
                }
                h.paid = cap(h.paid + h.number * h.other);
                comes("mine", h.number * h.other);
            }
        }
        for (Debt d : debts) {
            long interest = (long) Math.ceil(d.left[0] * (long) d.rate / 10000.0);
            int part = Math.min(d.left[0], (int) Math.ceil(d.n / (double) d.years));
            income = cap(income - interest - part);
            d.left[0] -= part;
        }
        int now = chargesNow();
        income = cap(income - now);
        charges = cap(charges + now);
        for (Holding h : holdings) {
            boolean ends = h.kind == 0 && h.last <= season || h.kind == 1 && h.notice;
            if (ends && !h.fields.isEmpty()) {
                h.out = Math.max(0, owedTo(h) - h.arrears - h.put);
                income = cap(income - h.out);
                h.arrears = 0;
                h.put = 0;
                empty(h);
            }
        }
    }
}
