import java.math.BigInteger;
import java.util.ArrayList;
import java.util.HashMap;
import java.util.List;
import java.util.Map;
import java.util.Set;
import java.util.TreeSet;
import java.util.regex.Matcher;
import java.util.regex.Pattern;

/**
 * The document once more, as slow and as near to its words as can be: rows are texts of 'h' and 't', chances are
 * fractions by the states of a coin, odds are counted toss by toss, rings are sought in all orders. It is there to be
 * compared with TossRows, so it shares none of its ways.
 */
final class Model {
    private static final int NONE = -1, UNKNOWN = -101, OUTSIDE = -102, STATE = -103, FULL = -104;
    private static final String KINDS = "pmoeb";
    private static final Pattern[] TABLES = {tables(2), tables(3), tables(4)};
    private static final Map<String, BigInteger[]> SOLVED = new HashMap<>();

    private record Seen(int player, String tail, boolean hits) {
    }

    private record State(List<Character> kinds, List<String> rows, List<Integer> won, String game, int tosses,
        List<Seen> seen) {
        State copy() {
            return new State(new ArrayList<>(kinds), new ArrayList<>(rows), new ArrayList<>(won), game, tosses,
                new ArrayList<>(seen));
        }

        State with(String newGame, int newTosses) {
            return new State(kinds, rows, won, newGame, newTosses, seen);
        }
    }

    private String page = "";
    private int size = 0;
    private int reads = 0;
    private State now = new State(List.of(), List.of(), List.of(), "", 0, new ArrayList<>());
    private State kept = null;

    private static Pattern tables(int size) {
        String player = "[pmoeb][ht]{" + size + "}";
        return Pattern.compile(size + ";" + player + "(," + player + "){1,3}");
    }

    private static boolean beginsSome(String text) {
        for (Pattern tables : TABLES) {
            Matcher matcher = tables.matcher(text);
            if (matcher.matches() || matcher.hitEnd()) {
                return true;
            }
        }
        return false;
    }

    int letter(int code) {
        if (code < 32 || code > 126) {
            return OUTSIDE;
        }
        if (page.length() == 28) {
            return FULL;
        }
        page += (char) code;
        return page.length();
    }

    int blank() {
        int had = page.length();
        page = "";
        return had;
    }

    int fault() {
        int good = 0;
        while (good < page.length() && beginsSome(page.substring(0, good + 1))) {
            good++;
        }
        return good;
    }

    int table() {
        boolean is = false;
        for (Pattern tables : TABLES) {
            is |= tables.matcher(page).matches();
        }
        if (!is) {
            return STATE;
        }
        String[] parts = page.split(";");
        size = Integer.parseInt(parts[0]);
        now = new State(new ArrayList<>(), new ArrayList<>(), new ArrayList<>(), "", 0, new ArrayList<>());
        for (String player : parts[1].split(",")) {
            now.kinds.add(player.charAt(0));
            now.rows.add(player.substring(1));
            now.won.add(0);
        }
        kept = null;
        page = "";
        reads++;
        return now.rows.size();
    }

    private boolean nobody(int player) {
        return player < 0 || player >= now.rows.size();
    }

    private boolean noRow(int row) {
        return row < 0 || row >= Math.pow(2, size);
    }

    private static int number(String row) {
        return Integer.parseInt(row.replace('h', '0').replace('t', '1'), 2);
    }

    /** All rows that are LONG, by their numbers. */
    private List<String> allRows() {
        List<String> rows = new ArrayList<>(List.of(""));
        for (int i = 0; i < size; i++) {
            List<String> longer = new ArrayList<>();
            for (String row : rows) {
                longer.add(row + "h");
                longer.add(row + "t");
            }
            rows = longer;
        }
        return rows;
    }

    private static String other(String row) {
        return row.replace('h', 'x').replace('t', 'h').replace('x', 't');
    }

    private static String turned(String row) {
        return new StringBuilder(row).reverse().toString();
    }

    private static boolean isHit(char kind, String row, String tail) {
        return switch (kind) {
            case 'p' -> tail.equals(row);
            case 'm' -> tail.equals(turned(row));
            case 'o' -> tail.equals(other(row));
            case 'e' -> tail.equals(row) || tail.equals(other(row));
            default -> tail.equals(row) || tail.equals(other(row)) || tail.equals(turned(row));
        };
    }

    private Set<String> hitRows(char kind, String row) {
        Set<String> hit = new TreeSet<>();
        for (String tail : allRows()) {
            if (isHit(kind, row, tail)) {
                hit.add(tail);
            }
        }
        return hit;
    }

    private Set<String> hitRows(int player) {
        return hitRows(now.kinds.get(player), now.rows.get(player));
    }

    private List<String> rowsLeft(int player) {
        List<String> left = new ArrayList<>();
        for (String row : allRows()) {
            boolean can = true;
            for (Seen seen : now.seen) {
                can &= seen.player != player || isHit(now.kinds.get(player), row, seen.tail) == seen.hits;
            }
            if (can) {
                left.add(row);
            }
        }
        return left;
    }

    private int nextTry(int player) {
        List<String> left = rowsLeft(player);
        int best = NONE;
        int fewest = 99;
        for (String tail : allRows()) {
            int hit = 0;
            int not = 0;
            for (String row : left) {
                if (isHit(now.kinds.get(player), row, tail)) {
                    hit++;
                } else {
                    not++;
                }
            }
            if (!left.isEmpty() && Math.max(hit, not) < fewest) {
                fewest = Math.max(hit, not);
                best = number(tail);
            }
        }
        return best;
    }

    int player(int player, int what) {
        if (nobody(player)) {
            return UNKNOWN;
        }
        switch (what) {
            case 0: return KINDS.indexOf(now.kinds.get(player));
            case 1: return number(now.rows.get(player));
            case 2: return now.won.get(player);
            case 3: return waitFor(hitRows(player));
            case 4: return hitRows(player).size();
            case 5: return rowsLeft(player).stream().mapToInt(row -> 1 << number(row)).sum();
            case 6: return nextTry(player);
            default: return OUTSIDE;
        }
    }

    int as(int player, int kind) {
        if (nobody(player)) {
            return UNKNOWN;
        }
        if (kind < 0 || kind > 4) {
            return OUTSIDE;
        }
        String are = switch (now.kinds.get(player)) {
            case 'p' -> "p";
            case 'm' -> "pm";
            case 'o' -> "po";
            case 'e' -> "pe";
            default -> "peb";
        };
        return are.indexOf(KINDS.charAt(kind)) >= 0 ? player : NONE;
    }

    int hits(int player, int tail) {
        if (nobody(player)) {
            return UNKNOWN;
        }
        return noRow(tail) ? OUTSIDE : hitRows(player).contains(allRows().get(tail)) ? 1 : 0;
    }

    private String tailOf(String game) {
        return game.length() < size ? "" : game.substring(game.length() - size);
    }

    private List<Integer> hitters(String game) {
        List<Integer> who = new ArrayList<>();
        for (int p = 0; p < now.rows.size(); p++) {
            if (hitRows(p).contains(tailOf(game))) {
                who.add(p);
            }
        }
        return who;
    }

    int toss(int side) {
        if (side < 0 || side > 1) {
            return OUTSIDE;
        }
        if (size == 0) {
            return STATE;
        }
        if (now.tosses == 9999) {
            return FULL;
        }
        String game = now.game + "ht".charAt(side);
        int bits = 0;
        for (int p : hitters(game)) {
            bits += 1 << p;
            now.won.set(p, now.won.get(p) + 1);
        }
        now = now.with(bits == 0 ? game : "", now.tosses + 1);
        return bits;
    }

    int anew() {
        if (size == 0) {
            return STATE;
        }
        int were = now.game.length();
        now = now.with("", now.tosses);
        return were;
    }

    int bet(int player, int row) {
        if (nobody(player)) {
            return UNKNOWN;
        }
        return noRow(row) ? OUTSIDE : number(now.rows.set(player, allRows().get(row)));
    }

    int be(int player, int kind) {
        if (nobody(player)) {
            return UNKNOWN;
        }
        return kind < 0 || kind > 4 ? OUTSIDE : KINDS.indexOf(now.kinds.set(player, KINDS.charAt(kind)));
    }

    /**
     * From a new game on: the chance that one of the good rows ends it, and the average number of tosses until one of
     * the rows does: above and below, each.
     */
    private BigInteger[] solve(Set<String> good, Set<String> ends) {
        return SOLVED.computeIfAbsent(size + " " + good + " " + ends, key -> solved(good, ends));
    }

    private BigInteger[] solved(Set<String> good, Set<String> ends) {
        List<String> states = new ArrayList<>(List.of(""));
        for (int i = 0; i < states.size(); i++) {
            if (states.get(i).length() < size - 1) {
                states.add(states.get(i) + "h");
                states.add(states.get(i) + "t");
            }
        }
        int many = states.size();
        Fraction[][] lines = new Fraction[many][many + 2];
        for (int i = 0; i < many; i++) {
            for (int j = 0; j < many + 2; j++) {
                lines[i][j] = Fraction.of(j == i || j == many + 1 ? 1 : 0, 1);
            }
            for (String side : List.of("h", "t")) {
                String then = states.get(i) + side;
                if (ends.contains(then)) {
                    lines[i][many] = lines[i][many].plus(Fraction.of(good.contains(then) ? 1 : 0, 2));
                } else {
                    int next = states.indexOf(then.length() < size ? then : then.substring(1));
                    lines[i][next] = lines[i][next].plus(Fraction.of(-1, 2));
                }
            }
        }
        Fraction.eliminate(lines);
        Fraction chance = lines[0][many];
        Fraction average = lines[0][many + 1];
        return new BigInteger[] {chance.above(), chance.below(), average.above(), average.below()};
    }

    private int waitFor(Set<String> rows) {
        BigInteger[] solved = solve(rows, rows);
        return solved[2].multiply(BigInteger.valueOf(1000)).divide(solved[3]).intValueExact();
    }

    private int chance(Set<String> one, Set<String> other) {
        Set<String> ends = new TreeSet<>(one);
        ends.addAll(other);
        BigInteger[] solved = solve(one, ends);
        return solved[0].multiply(BigInteger.valueOf(1000000)).divide(solved[1]).intValueExact();
    }

    int duel(int one, int other) {
        return nobody(one) || nobody(other) || one == other ? UNKNOWN : chance(hitRows(one), hitRows(other));
    }

    private int[] answerTo(Set<String> his) {
        int[] best = {NONE, NONE};
        for (String row : allRows()) {
            if (!his.contains(row) && chance(Set.of(row), his) > best[1]) {
                best = new int[] {number(row), chance(Set.of(row), his)};
            }
        }
        return best;
    }

    int answer(int player, int what) {
        if (nobody(player)) {
            return UNKNOWN;
        }
        return what < 0 || what > 1 ? OUTSIDE : answerTo(hitRows(player))[what];
    }

    int open(int what) {
        if (what < 0 || what > 1) {
            return OUTSIDE;
        }
        if (size == 0) {
            return STATE;
        }
        int[] best = {NONE, 1000001};
        for (String row : allRows()) {
            int most = answerTo(Set.of(row))[1];
            if (most < best[1]) {
                best = new int[] {number(row), most};
            }
        }
        return best[what];
    }

    private boolean beats(int one, int other) {
        return duel(one, other) > duel(other, one);
    }

    int ring() {
        if (size == 0) {
            return STATE;
        }
        List<List<Integer>> chains = new ArrayList<>(List.of(List.of()));
        int fewest = 99;
        int least = 0;
        for (int i = 0; i < chains.size(); i++) {
            List<Integer> chain = chains.get(i);
            int many = chain.size();
            int bits = chain.stream().mapToInt(p -> 1 << p).sum();
            if (many >= 3 && beats(chain.get(many - 1), chain.get(0)) && (many < fewest || many == fewest && bits < least)) {
                fewest = many;
                least = bits;
            }
            for (int p = 0; p < now.rows.size(); p++) {
                if (!chain.contains(p) && (chain.isEmpty() || beats(chain.get(many - 1), p))) {
                    List<Integer> longer = new ArrayList<>(chain);
                    longer.add(p);
                    chains.add(longer);
                }
            }
        }
        return least;
    }

    private long waysToWin(Set<String> his, Set<String> all, String tail, int tosses) {
        long ways = 0;
        for (String side : List.of("h", "t")) {
            String longer = tail + side;
            String then = tailOf(longer);
            if (all.contains(then)) {
                ways += his.contains(then) ? 1L << (tosses - 1) : 0;
            } else if (tosses > 1) {
                ways += waysToWin(his, all, then.isEmpty() ? longer : then, tosses - 1);
            }
        }
        return ways;
    }

    int odds(int player, int tosses, int what) {
        if (nobody(player)) {
            return UNKNOWN;
        }
        if (tosses < 1 || tosses > 20 || what < 0 || what > 1) {
            return OUTSIDE;
        }
        Set<String> all = new TreeSet<>();
        for (int p = 0; p < now.rows.size(); p++) {
            all.addAll(hitRows(p));
        }
        BigInteger ways = BigInteger.valueOf(waysToWin(hitRows(player), all, now.game, tosses));
        Fraction odds = new Fraction(ways, BigInteger.TWO.pow(tosses)).lowest();
        return (what == 0 ? odds.above() : odds.below()).intValueExact();
    }

    int see(int player, int tail, boolean hits) {
        if (nobody(player)) {
            return UNKNOWN;
        }
        if (noRow(tail)) {
            return OUTSIDE;
        }
        if (now.seen.size() == 6) {
            return FULL;
        }
        now.seen.add(new Seen(player, allRows().get(tail), hits));
        return now.seen.size();
    }

    int forget() {
        int were = now.seen.size();
        now.seen.clear();
        return were;
    }

    int games(int times, int seed, int what) {
        if (times < 1 || times > 99 || seed < 0 || what < 0 || what > 2) {
            return OUTSIDE;
        }
        if (size == 0) {
            return STATE;
        }
        BigInteger drawn = BigInteger.valueOf(seed);
        String game = now.game;
        int over = 0;
        int[] won = new int[now.rows.size()];
        for (int i = 0; i < times; i++) {
            drawn = drawn.multiply(BigInteger.valueOf(1103515245)).add(BigInteger.valueOf(12345)).mod(BigInteger.TWO.pow(31));
            game += "ht".charAt(drawn.intValueExact() / 65536 % 2);
            List<Integer> hitters = hitters(game);
            if (!hitters.isEmpty()) {
                game = "";
                over++;
            }
            for (int p : hitters) {
                won[p]++;
            }
        }
        int most = 0;
        for (int p = 0; p < won.length; p++) {
            most = won[p] > won[most] ? p : most;
        }
        return new int[] {over, most, drawn.intValueExact()}[what];
    }

    int image() {
        if (size == 0) {
            return STATE;
        }
        kept = now.copy();
        return now.tosses;
    }

    int restore() {
        if (kept == null) {
            return STATE;
        }
        now = kept.copy();
        return now.tosses;
    }

    int count(int what) {
        String tail = size == 0 ? "" : tailOf(now.game);
        switch (what) {
            case 0: return now.rows.size();
            case 1: return size;
            case 2: return now.game.length();
            case 3: return now.tosses;
            case 4: return tail.isEmpty() ? NONE : number(tail);
            case 5: return now.won.stream().mapToInt(won -> won).sum();
            case 6: return now.seen.size();
            case 7: return page.length();
            case 8: return reads;
            default: return OUTSIDE;
        }
    }

    long digest() {
        List<Integer> numbers = new ArrayList<>();
        for (int p = 0; p < now.rows.size(); p++) {
            for (int what = 0; what <= 6; what++) {
                numbers.add(player(p, what));
            }
            numbers.addAll(List.of(answer(p, 0), answer(p, 1), odds(p, 9, 0), odds(p, 9, 1)));
        }
        numbers.addAll(List.of(duel(0, 1), duel(1, 0)));
        if (size > 0) {
            numbers.add(ring());
        }
        for (char letter : page.toCharArray()) {
            numbers.add((int) letter);
        }
        for (int what = 0; what <= 8; what++) {
            numbers.add(count(what));
        }
        long h = 1297;
        for (int number : numbers) {
            h = 31 * h + number;
        }
        return h;
    }
}
