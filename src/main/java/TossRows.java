import java.util.Arrays;

/**
 * Whose row of tosses comes first: a table of players, their bets, the tosses, and what would be.
 * The words in capitals in comments are those of the document.
 */
public final class TossRows {
    public static final int NONE = -1, UNKNOWN = -101, OUTSIDE = -102, STATE = -103, FULL = -104;

    private static final int PLAIN = 0, MIRROR = 1, OTHER = 2, EITHER = 3, BOTH = 4;
    private static final int LEAST_LONG = 2, MOST_LONG = 4;
    private static final int LEAST_PLAYERS = 2, MOST_PLAYERS = 4;
    private static final int MOST_SEEN = 6, MOST_TOSSES = 9999, MOST_AHEAD = 20, MOST_TIMES = 99;
    private static final int DIGEST_AHEAD = 9;
    private static final int THOUSAND = 1000, MILLION = 1000000;
    private static final int LEAST_RING = 3;
    private static final int LAST_OF_PLAYER = 6, LAST_OF_COUNT = 8;

    /** A track is what is known of a GAME's latest tosses: their figures behind a leading 1. */
    private static final int NEW_TRACK = 1;
    private static final int TRACKS = 1 << (MOST_LONG + 1);

    private final Page page = new Page();
    private final Course now = new Course();
    private final Course kept = new Course();
    private final Race race = new Race();
    private final Plain[] kinds = {new Plain(), new Mirror(), new Other(), new Either(), new Both()};
    private final int[] wins = new int[MOST_PLAYERS];
    private final int[] ways = new int[TRACKS];
    private final int[] waysThen = new int[TRACKS];
    private boolean isKept;
    private int players;
    private int size;
    private int reads;

    public TossRows() {
    }

    // ---- the table

    public int letter(int code) {
        if (code < 32 || code > 126) {
            return OUTSIDE;
        }
        if (page.isFull()) {
            return FULL;
        }
        page.append((char) code);
        return page.length();
    }

    public int blank() {
        int had = page.length();
        page.clear();
        return had;
    }

    public int fault() {
        return page.firstWrong();
    }

    public int table() {
        int many = page.playersOfTable();
        if (many == 0) {
            return STATE;
        }
        players = many;
        size = page.size();
        now.clear();
        for (int p = 0; p < players && p < MOST_PLAYERS; p++) {
            now.kind[p] = page.kindOf(p);
            now.row[p] = page.rowOf(p);
        }
        page.clear();
        isKept = false;
        reads++;
        return players;
    }

    // ---- players

    public int player(int player, int what) {
        if (!isPlayer(player)) {
            return UNKNOWN;
        }
        switch (what) {
            case 0: return now.kind[player];
            case 1: return now.row[player];
            case 2: return now.won[player];
            case 3: return race.waitFor(rowsHitBy(player), size);
            case 4: return Integer.bitCount(rowsHitBy(player));
            case 5: return rowsLeft(player);
            case LAST_OF_PLAYER: return nextTry(player);
            default: return OUTSIDE;
        }
    }

    public int as(int player, int kind) {
        if (!isPlayer(player)) {
            return UNKNOWN;
        }
        if (!isKind(kind)) {
            return OUTSIDE;
        }
        return isSuch(kindAt(now.kind[player]), kind) ? player : NONE;
    }

    public int hits(int player, int tail) {
        if (!isPlayer(player)) {
            return UNKNOWN;
        }
        if (!isRow(tail)) {
            return OUTSIDE;
        }
        return has(rowsHitBy(player), tail) ? 1 : 0;
    }

    // ---- what is done

    public int toss(int side) {
        if (side != 0 && side != 1) {
            return OUTSIDE;
        }
        if (players == 0) {
            return STATE;
        }
        if (now.tosses >= MOST_TOSSES) {
            return FULL;
        }
        now.tosses++;
        now.tossesOfGame++;
        now.track = trackBehind(now.track, side);
        int hitters = hittersAt(now.track);
        if (hitters != 0) {
            addWins(hitters, now.won);
            now.beginGame();
        }
        return hitters;
    }

    public int anew() {
        if (players == 0) {
            return STATE;
        }
        int were = now.tossesOfGame;
        now.beginGame();
        return were;
    }

    public int bet(int player, int row) {
        if (!isPlayer(player)) {
            return UNKNOWN;
        }
        if (!isRow(row)) {
            return OUTSIDE;
        }
        int was = now.row[player];
        now.row[player] = row;
        return was;
    }

    public int be(int player, int kind) {
        if (!isPlayer(player)) {
            return UNKNOWN;
        }
        if (!isKind(kind)) {
            return OUTSIDE;
        }
        int was = now.kind[player];
        now.kind[player] = kind;
        return was;
    }

    // ---- what would be

    public int duel(int one, int other) {
        if (!isPlayer(one) || !isPlayer(other) || one == other) {
            return UNKNOWN;
        }
        return race.chance(rowsHitBy(one), rowsHitBy(other), size);
    }

    public int answer(int player, int what) {
        if (!isPlayer(player)) {
            return UNKNOWN;
        }
        if (what != 0 && what != 1) {
            return OUTSIDE;
        }
        int his = rowsHitBy(player);
        int row = bestAgainst(his);
        return what == 0 ? row : race.chance(1 << row, his, size);
    }

    public int open(int what) {
        if (what != 0 && what != 1) {
            return OUTSIDE;
        }
        if (players == 0) {
            return STATE;
        }
        int row = bestToOpen();
        return what == 0 ? row : dangerOf(row);
    }

    public int ring() {
        if (players == 0) {
            return STATE;
        }
        int beaten = whoBeatsWhom();
        for (int many = LEAST_RING; many <= players; many++) {
            for (int bits = 0; bits < 1 << players; bits++) {
                if (Integer.bitCount(bits) == many && isRing(bits, beaten)) {
                    return bits;
                }
            }
        }
        return 0;
    }

    public int odds(int player, int tosses, int what) {
        if (!isPlayer(player)) {
            return UNKNOWN;
        }
        if (tosses < 1 || tosses > MOST_AHEAD || what < 0 || what > 1) {
            return OUTSIDE;
        }
        int above = waysToWin(player, tosses);
        int halvings = tosses;
        while (halvings > 0 && (above & 1) == 0) {
            above >>= 1;
            halvings--;
        }
        return what == 0 ? above : 1 << halvings;
    }

    // ---- what is seen

    public int see(int player, int tail, boolean hits) {
        if (!isPlayer(player)) {
            return UNKNOWN;
        }
        if (!isRow(tail)) {
            return OUTSIDE;
        }
        if (now.seen >= MOST_SEEN) {
            return FULL;
        }
        now.addSeen(player, tail, hits);
        return now.seen;
    }

    public int forget() {
        int were = now.seen;
        now.seen = 0;
        return were;
    }

    public int games(int times, int seed, int what) {
        if (times < 1 || times > MOST_TIMES || seed < 0 || what < 0 || what > 2) {
            return OUTSIDE;
        }
        if (players == 0) {
            return STATE;
        }
        Arrays.fill(wins, 0);
        int over = 0;
        int drawn = seed;
        int track = now.track;
        for (int i = 0; i < times; i++) {
            drawn = nextSeed(drawn);
            track = trackBehind(track, (drawn / 65536) % 2);
            int hitters = hittersAt(track);
            if (hitters != 0) {
                over++;
                addWins(hitters, wins);
                track = NEW_TRACK;
            }
        }
        return what == 0 ? over : what == 1 ? mostWins() : drawn;
    }

    // ---- what is told of all

    public int image() {
        if (players == 0) {
            return STATE;
        }
        kept.take(now);
        isKept = true;
        return now.tosses;
    }

    public int restore() {
        if (!isKept) {
            return STATE;
        }
        now.take(kept);
        return now.tosses;
    }

    public int count(int what) {
        switch (what) {
            case 0: return players;
            case 1: return size;
            case 2: return now.tossesOfGame;
            case 3: return now.tosses;
            case 4: return tailOf(now.track);
            case 5: return now.wonByAll();
            case 6: return now.seen;
            case 7: return page.length();
            case LAST_OF_COUNT: return reads;
            default: return OUTSIDE;
        }
    }

    public long digest() {
        long sum = 1297;
        for (int p = 0; p < players; p++) {
            for (int what = 0; what <= LAST_OF_PLAYER; what++) {
                sum = with(sum, player(p, what));
            }
            sum = with(with(sum, answer(p, 0)), answer(p, 1));
            sum = with(with(sum, odds(p, DIGEST_AHEAD, 0)), odds(p, DIGEST_AHEAD, 1));
        }
        sum = with(with(sum, duel(0, 1)), duel(1, 0));
        if (players > 0) {
            sum = with(sum, ring());
        }
        for (int i = 0; i < page.length(); i++) {
            sum = with(sum, page.at(i));
        }
        for (int what = 0; what <= LAST_OF_COUNT; what++) {
            sum = with(sum, count(what));
        }
        return sum;
    }

    private static long with(long sum, long number) {
        return 31 * sum + number;
    }

    // ---- what a number names

    private boolean isPlayer(int number) {
        return number >= 0 && number < players && number < MOST_PLAYERS;
    }

    private boolean isRow(int number) {
        return number >= 0 && number < 1 << size;
    }

    private boolean isKind(int number) {
        return number >= 0 && number < kinds.length;
    }

    private Plain kindAt(int kind) {
        return isKind(kind) ? kinds[kind] : kinds[PLAIN];
    }

    private static boolean isSuch(Plain one, int kind) {
        switch (kind) {
            case PLAIN: return true;
            case MIRROR: return one instanceof Mirror;
            case OTHER: return one instanceof Other;
            case EITHER: return one instanceof Either;
            case BOTH: return one instanceof Both;
            default: return false;
        }
    }

    // ---- hits

    /** The rows, as bits, by which a PLAYER HITS. */
    private int rowsHitBy(int player) {
        return isPlayer(player) ? kindAt(now.kind[player]).rowsHitWith(now.row[player], size) : 0;
    }

    private static boolean has(int bits, int number) {
        return (bits >> number & 1) == 1;
    }

    private int trackBehind(int track, int side) {
        int longer = 2 * track + side;
        int whole = 1 << size;
        return longer < 2 * whole ? longer : whole + (longer & (whole - 1));
    }

    private int tailOf(int track) {
        int whole = 1 << size;
        return players > 0 && track >= whole ? track - whole : NONE;
    }

    /** Who HITS when a GAME has come to this track, as bits. */
    private int hittersAt(int track) {
        int tail = tailOf(track);
        if (tail == NONE) {
            return 0;
        }
        int bits = 0;
        for (int p = 0; p < players; p++) {
            if (has(rowsHitBy(p), tail)) {
                bits |= 1 << p;
            }
        }
        return bits;
    }

    private static void addWins(int hitters, int[] won) {
        for (int p = 0; p < won.length; p++) {
            won[p] += has(hitters, p) ? 1 : 0;
        }
    }

    private int mostWins() {
        int most = 0;
        for (int p = 1; p < players && p < wins.length; p++) {
            if (wins[p] > wins[most]) {
                most = p;
            }
        }
        return most;
    }

    private static int nextSeed(int seed) {
        return (int) ((1103515245L * seed + 12345L) & 0x7fffffffL);
    }

    // ---- what would be, by rows as bits

    private int bestAgainst(int his) {
        int best = 0;
        int most = -1;
        for (int row = 0; row < 1 << size; row++) {
            if (!has(his, row)) {
                int chance = race.chance(1 << row, his, size);
                if (chance > most) {
                    most = chance;
                    best = row;
                }
            }
        }
        return best;
    }

    /** The most that DUEL of another plain one and a plain one with this ROW is. */
    private int dangerOf(int row) {
        return race.chance(1 << bestAgainst(1 << row), 1 << row, size);
    }

    private int bestToOpen() {
        int best = 0;
        int least = MILLION + 1;
        for (int row = 0; row < 1 << size; row++) {
            int danger = dangerOf(row);
            if (danger < least) {
                least = danger;
                best = row;
            }
        }
        return best;
    }

    // ---- rings

    private static int beatBit(int one, int other) {
        return 1 << (one * MOST_PLAYERS + other);
    }

    private int whoBeatsWhom() {
        int bits = 0;
        for (int one = 0; one < players; one++) {
            for (int other = 0; other < one; other++) {
                int forth = race.chance(rowsHitBy(one), rowsHitBy(other), size);
                int back = race.chance(rowsHitBy(other), rowsHitBy(one), size);
                if (forth > back) {
                    bits |= beatBit(one, other);
                } else if (back > forth) {
                    bits |= beatBit(other, one);
                }
            }
        }
        return bits;
    }

    private static boolean isRing(int bits, int beaten) {
        for (int first = 0; first < MOST_PLAYERS; first++) {
            if (has(bits, first)) {
                // A ring may be told from any of its players on, so one beginning is enough.
                return closes(first, first, bits & ~(1 << first), beaten, 0);
            }
        }
        return false;
    }

    /** Whether a chain that begins with first and has come to last can go through all left, and back to first. */
    private static boolean closes(int first, int last, int left, int beaten, int depth) {
        if (left == 0) {
            return (beaten & beatBit(last, first)) != 0;
        }
        if (depth >= MOST_PLAYERS) {
            return false;
        }
        for (int p = 0; p < MOST_PLAYERS; p++) {
            boolean goesOn = has(left, p) && (beaten & beatBit(last, p)) != 0;
            if (goesOn && closes(first, p, left & ~(1 << p), beaten, depth + 1)) {
                return true;
            }
        }
        return false;
    }

    // ---- odds

    /** Of all rows of so many TOSSES, how many end this GAME by a TOSS by which the PLAYER HITS. */
    private int waysToWin(int player, int tosses) {
        int his = rowsHitBy(player);
        int all = 0;
        for (int p = 0; p < players; p++) {
            all |= rowsHitBy(p);
        }
        Arrays.fill(ways, 0);
        if (now.track >= 0 && now.track < ways.length) {
            ways[now.track] = 1;
        }
        int won = 0;
        for (int i = 0; i < tosses; i++) {
            // A row that has won goes on with either side.
            won = 2 * won + winsByToss(his, all);
            System.arraycopy(waysThen, 0, ways, 0, TRACKS);
        }
        return won;
    }

    /** Tosses once more from all ways that have not ended: how many end so that it is his. */
    private int winsByToss(int his, int all) {
        Arrays.fill(waysThen, 0);
        int won = 0;
        for (int track = NEW_TRACK; track < ways.length; track++) {
            if (ways[track] == 0) {
                continue;
            }
            for (int side = 0; side < 2; side++) {
                int then = trackBehind(track, side);
                int tail = tailOf(then);
                boolean isOver = tail != NONE && has(all, tail);
                if (isOver && has(his, tail)) {
                    won += ways[track];
                }
                if (!isOver && then >= 0 && then < waysThen.length) {
                    waysThen[then] += ways[track];
                }
            }
        }
        return won;
    }

    // ---- which row it can be

    /** The ROWS, as bits, with which one of a KIND HITS by a TAIL. */
    private int betsThatHit(Plain kind, int tail) {
        int bits = 0;
        for (int row = 0; row < 1 << size; row++) {
            if (has(kind.rowsHitWith(row, size), tail)) {
                bits |= 1 << row;
            }
        }
        return bits;
    }

    private int rowsLeft(int player) {
        Plain kind = kindAt(now.kind[player]);
        int left = (1 << (1 << size)) - 1;
        for (int i = 0; i < now.seen && i < MOST_SEEN; i++) {
            if (now.seenPlayer[i] == player) {
                int hitting = betsThatHit(kind, now.seenTail[i]);
                left &= now.seenHit[i] ? hitting : ~hitting;
            }
        }
        return left;
    }

    private int nextTry(int player) {
        int left = rowsLeft(player);
        if (left == 0) {
            return NONE;
        }
        Plain kind = kindAt(now.kind[player]);
        int many = Integer.bitCount(left);
        int best = 0;
        int fewest = many + 1;
        for (int tail = 0; tail < 1 << size; tail++) {
            int hitting = Integer.bitCount(left & betsThatHit(kind, tail));
            int atWorst = Math.max(hitting, many - hitting);
            if (atWorst < fewest) {
                fewest = atWorst;
                best = tail;
            }
        }
        return best;
    }

    // ---- rows read otherwise

    private static int fromItsEnd(int row, int size) {
        int turned = 0;
        for (int i = 0; i < size; i++) {
            turned = 2 * turned + (row >> i & 1);
        }
        return turned;
    }

    private static int withOtherSigns(int row, int size) {
        return row ^ ((1 << size) - 1);
    }

    /** A KIND: by which rows one who bet on a row HITS, as bits. All are players, so the plain one is above them all. */
    private static class Plain {
        int rowsHitWith(int row, int size) {
            return 1 << row;
        }
    }

    private static final class Mirror extends Plain {
        int rowsHitWith(int row, int size) {
            return 1 << fromItsEnd(row, size);
        }
    }

    private static final class Other extends Plain {
        int rowsHitWith(int row, int size) {
            return 1 << withOtherSigns(row, size);
        }
    }

    private static class Either extends Plain {
        int rowsHitWith(int row, int size) {
            return 1 << row | 1 << withOtherSigns(row, size);
        }
    }

    private static final class Both extends Either {
        int rowsHitWith(int row, int size) {
            return super.rowsHitWith(row, size) | 1 << fromItsEnd(row, size);
        }
    }

    /** THE PAGE: letters that may come to be a TABLE. */
    private static final class Page {
        private static final int MOST = 28;
        private static final int AHEAD_OF_PLAYERS = 2;
        private static final String KIND_LETTERS = "pmoeb";

        private final char[] letters = new char[MOST];
        private int length;

        int length() {
            return length;
        }

        boolean isFull() {
            return length >= MOST;
        }

        void append(char letter) {
            if (length < MOST) {
                letters[length] = letter;
                length++;
            }
        }

        void clear() {
            length = 0;
        }

        char at(int place) {
            return place >= 0 && place < length ? letters[place] : ' ';
        }

        /** How LONG rows are by the first letter; 0, if it does not say so. */
        int size() {
            int figure = at(0) - '0';
            return figure >= LEAST_LONG && figure <= MOST_LONG ? figure : 0;
        }

        int firstWrong() {
            for (int place = 0; place < length; place++) {
                if (!canStand(place)) {
                    return place;
                }
            }
            return length;
        }

        /** How many PLAYERS the TABLE has that the letters are; 0, if they are none. */
        int playersOfTable() {
            if (size() == 0 || firstWrong() < length) {
                return 0;
            }
            // With one ',' more behind the last player, all players would have as many letters.
            int lettersOfPlayers = length + 1 - AHEAD_OF_PLAYERS;
            int many = lettersOfPlayers / step();
            return lettersOfPlayers % step() == 0 && many >= LEAST_PLAYERS ? many : 0;
        }

        int kindOf(int player) {
            return Math.max(KIND_LETTERS.indexOf(at(placeOf(player))), 0);
        }

        int rowOf(int player) {
            int row = 0;
            for (int i = 1; i <= size(); i++) {
                row = 2 * row + (at(placeOf(player) + i) == 't' ? 1 : 0);
            }
            return row;
        }

        private int placeOf(int player) {
            return AHEAD_OF_PLAYERS + player * step();
        }

        /** How many letters a player has, with the ',' behind him; never 0, for it divides. */
        private int step() {
            return size() + 2;
        }

        /** Whether a TABLE can have this letter there, if those ahead of it can stand. */
        private boolean canStand(int place) {
            if (size() == 0) {
                return false;
            }
            if (place < AHEAD_OF_PLAYERS) {
                return place == 0 || at(place) == ';';
            }
            int player = (place - AHEAD_OF_PLAYERS) / step();
            int within = (place - AHEAD_OF_PLAYERS) % step();
            if (within == 0) {
                return KIND_LETTERS.indexOf(at(place)) >= 0;
            }
            if (within <= size()) {
                return at(place) == 'h' || at(place) == 't';
            }
            return at(place) == ',' && player + 1 < MOST_PLAYERS;
        }
    }

    /** All that an IMAGE keeps. */
    private static final class Course {
        private final int[] kind = new int[MOST_PLAYERS];
        private final int[] row = new int[MOST_PLAYERS];
        private final int[] won = new int[MOST_PLAYERS];
        private final int[] seenPlayer = new int[MOST_SEEN];
        private final int[] seenTail = new int[MOST_SEEN];
        private final boolean[] seenHit = new boolean[MOST_SEEN];
        private int seen;
        private int tosses;
        private int tossesOfGame;
        private int track = NEW_TRACK;

        void clear() {
            Arrays.fill(won, 0);
            seen = 0;
            tosses = 0;
            beginGame();
        }

        void beginGame() {
            tossesOfGame = 0;
            track = NEW_TRACK;
        }

        void addSeen(int player, int tail, boolean hit) {
            if (seen >= 0 && seen < MOST_SEEN) {
                seenPlayer[seen] = player;
                seenTail[seen] = tail;
                seenHit[seen] = hit;
                seen++;
            }
        }

        int wonByAll() {
            int all = 0;
            for (int p = 0; p < won.length; p++) {
                all += won[p];
            }
            return all;
        }

        void take(Course other) {
            if (other == null) {
                return;
            }
            System.arraycopy(other.kind, 0, kind, 0, MOST_PLAYERS);
            System.arraycopy(other.row, 0, row, 0, MOST_PLAYERS);
            System.arraycopy(other.won, 0, won, 0, MOST_PLAYERS);
            System.arraycopy(other.seenPlayer, 0, seenPlayer, 0, MOST_SEEN);
            System.arraycopy(other.seenTail, 0, seenTail, 0, MOST_SEEN);
            for (int i = 0; i < MOST_SEEN; i++) {
                seenHit[i] = other.seenHit[i];
            }
            seen = other.seen;
            tosses = other.tosses;
            tossesOfGame = other.tossesOfGame;
            track = other.track;
        }
    }

    /**
     * Which of some rows comes first in a new GAME, in whole numbers, so that rounding down is exact.
     * Why it is so: let somebody new bet fairly on row j ahead of each toss, and go on with all he has until he loses.
     * When row i has come first, those who bet on j have overlap(i, j) together, and they have paid one each toss; so for
     * each j the sum over i of (chance of i) times overlap(i, j) is the average number of tosses.
     */
    private static final class Race {
        /** Two who are BOTH have at most three rows each. */
        private static final int MOST = 6;

        private final int[] rows = new int[MOST];
        private final long[][] sums = new long[MOST][MOST + 1];
        private int many;

        /** WAIT for one of these rows (bits), in thousandths. */
        int waitFor(int bits, int size) {
            long whole = run(bits, size);
            long shares = sharesOf(bits);
            return shares == 0 ? 0 : (int) (THOUSAND * whole / shares);
        }

        /** DUEL of one and another, by the rows (bits) that each HITS by, in millionths. */
        int chance(int one, int other, int size) {
            run(one | other, size);
            long shares = sharesOf(one | other);
            return shares == 0 ? 0 : (int) (MILLION * sharesOf(one) / shares);
        }

        /**
         * Solves the sums as if the average were one toss, by eliminating without fractions: the last of each line, by
         * the answer, would be the row's chance. Those chances do not sum up to 1, but to 1 by the true average; so a
         * true chance is a line's share of all lines' last numbers, and the true average is the answer by their sum.
         */
        private long run(int bits, int size) {
            setRows(bits, size);
            setSums(size);
            long before = 1;
            for (int k = 0; k < many; k++) {
                long pivot = sums[k][k];
                // For different rows it is never 0; but it divides next, so it is looked at.
                if (before == 0 || pivot == 0) {
                    return 0;
                }
                for (int i = 0; i < many; i++) {
                    if (i != k) {
                        eliminate(sums[i], sums[k], k, before);
                    }
                }
                before = pivot;
            }
            return before;
        }

        private void eliminate(long[] line, long[] by, int k, long divisor) {
            long pivot = by[k];
            long factor = line[k];
            for (int j = 0; j <= many && divisor != 0; j++) {
                line[j] = (pivot * line[j] - factor * by[j]) / divisor;
            }
        }

        private void setRows(int bits, int size) {
            many = 0;
            for (int row = 0; row < 1 << size && many < MOST; row++) {
                if (has(bits, row)) {
                    rows[many] = row;
                    many++;
                }
            }
        }

        private void setSums(int size) {
            for (int j = 0; j < many; j++) {
                for (int i = 0; i < many; i++) {
                    sums[j][i] = overlap(rows[i], rows[j], size);
                }
                sums[j][many] = 1;
            }
        }

        private static int overlap(int come, int hoped, int size) {
            int all = 0;
            for (int r = 1; r <= size; r++) {
                int end = come & ((1 << r) - 1);
                int beginning = hoped >> (size - r);
                if (end == beginning) {
                    all += 1 << r;
                }
            }
            return all;
        }

        private long sharesOf(int bits) {
            long all = 0;
            for (int i = 0; i < many; i++) {
                if (has(bits, rows[i])) {
                    all += sums[i][many];
                }
            }
            return all;
        }
    }
}
