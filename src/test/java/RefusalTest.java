import java.util.List;
import java.util.function.Supplier;
import java.util.function.ToIntFunction;

/**
 * "Refusals, of several the first as told by each call: UNKNOWN (a number names nothing), OUTSIDE (it is not as told),
 * STATE (as told), FULL; they change nothing." Two objects are called alike, and one of them hears the call that is
 * refused, too: then all that is told of both is the same, now and behind more tosses, and from the image on.
 */
public final class RefusalTest {
    private static final int UNKNOWN = TossRows.UNKNOWN, OUTSIDE = TossRows.OUTSIDE, STATE = TossRows.STATE,
        FULL = TossRows.FULL;

    public static void main(String[] args) {
        Check.sentence("Refusals, of several the first as told by each call .. they change nothing.");
        page();
        numbersOfPlayers();
        rowsAndKinds();
        tossesAndGames();
        whatIsAsked();
        seen();
        withoutATable();
        severalAtOnce();
        imageThatIsNone();
        Check.end();
    }

    /** A table in the midst of a game, with games that are over, something seen, an image of another state, a page. */
    private static TossRows amidst() {
        TossRows x = Check.withTable("3;phht,mhth,ettt");
        Check.tossAll(x, "hhtttt");
        x.see(0, 3, false);
        x.toss(0);
        x.image();
        Check.tossAll(x, "tthh");
        x.bet(0, 6);
        x.be(1, Check.BOTH);
        x.see(1, 2, true);
        x.see(2, 7, false);
        Check.write(x, "4;ph");
        return x;
    }

    /** The same, but six are seen and the page is full. */
    private static TossRows full() {
        TossRows x = amidst();
        for (int i = 0; i < 3; i++) {
            x.see(i, 5, i == 1);
        }
        Check.write(x, "~".repeat(24));
        return x;
    }

    /** As many tosses as there can be; no run of 512 calls comes so far, but the document tells it. */
    private static TossRows tossedMost() {
        TossRows x = amidst();
        while (x.count(3) < 9999) {
            x.toss(x.count(3) % 2);
        }
        return x;
    }

    private static TossRows withoutTable() {
        TossRows x = new TossRows();
        Check.write(x, "3;phhh,p");
        return x;
    }

    private static void refused(String call, Supplier<TossRows> made, ToIntFunction<TossRows> asked, int want) {
        TossRows x = made.get();
        TossRows like = made.get();
        Check.due(call, asked.applyAsInt(x), want);
        List<Long> told = Told.allAndWhatComes(x);
        Check.holds(call + " changes nothing", told.equals(Told.allAndWhatComes(like)));
    }

    private static void amidst(String call, ToIntFunction<TossRows> asked, int want) {
        refused(call, RefusalTest::amidst, asked, want);
    }

    private static void page() {
        amidst("letter 31", x -> x.letter(31), OUTSIDE);
        amidst("letter 127", x -> x.letter(127), OUTSIDE);
        refused("letter on a full page", RefusalTest::full, x -> x.letter('p'), FULL);
        refused("a wrong letter on a full page", RefusalTest::full, x -> x.letter(127), OUTSIDE);
        amidst("table of a beginning", x -> x.table(), STATE);
        refused("table of a full page", RefusalTest::full, x -> x.table(), STATE);
    }

    private static void numbersOfPlayers() {
        for (int nobody : new int[] {-1, 3}) {
            amidst("player", x -> x.player(nobody, 0), UNKNOWN);
            amidst("as", x -> x.as(nobody, 0), UNKNOWN);
            amidst("hits", x -> x.hits(nobody, 0), UNKNOWN);
            amidst("bet", x -> x.bet(nobody, 0), UNKNOWN);
            amidst("be", x -> x.be(nobody, 0), UNKNOWN);
            amidst("duel, first", x -> x.duel(nobody, 0), UNKNOWN);
            amidst("duel, second", x -> x.duel(0, nobody), UNKNOWN);
            amidst("answer", x -> x.answer(nobody, 0), UNKNOWN);
            amidst("odds", x -> x.odds(nobody, 1, 0), UNKNOWN);
            amidst("see", x -> x.see(nobody, 0, true), UNKNOWN);
        }
        amidst("duel of one", x -> x.duel(1, 1), UNKNOWN);
    }

    private static void rowsAndKinds() {
        for (int row : new int[] {-1, 8}) {
            amidst("hits by " + row, x -> x.hits(2, row), OUTSIDE);
            amidst("bet on " + row, x -> x.bet(2, row), OUTSIDE);
            amidst("see by " + row, x -> x.see(2, row, false), OUTSIDE);
        }
        for (int kind : new int[] {-1, 5}) {
            amidst("as " + kind, x -> x.as(2, kind), OUTSIDE);
            amidst("be " + kind, x -> x.be(2, kind), OUTSIDE);
        }
    }

    private static void tossesAndGames() {
        amidst("toss -1", x -> x.toss(-1), OUTSIDE);
        amidst("toss 2", x -> x.toss(2), OUTSIDE);
        refused("toss behind 9999", RefusalTest::tossedMost, x -> x.toss(0), FULL);
        refused("toss 2 behind 9999", RefusalTest::tossedMost, x -> x.toss(2), OUTSIDE);
        amidst("odds by 0", x -> x.odds(0, 0, 0), OUTSIDE);
        amidst("odds by 21", x -> x.odds(0, 21, 0), OUTSIDE);
        amidst("games of 0", x -> x.games(0, 0, 0), OUTSIDE);
        amidst("games of 100", x -> x.games(100, 0, 0), OUTSIDE);
        amidst("games by -1", x -> x.games(1, -1, 0), OUTSIDE);
    }

    private static void whatIsAsked() {
        for (int what : new int[] {-1, 9}) {
            amidst("player, what " + what, x -> x.player(0, what), OUTSIDE);
            amidst("answer, what " + what, x -> x.answer(0, what), OUTSIDE);
            amidst("open, what " + what, x -> x.open(what), OUTSIDE);
            amidst("odds, what " + what, x -> x.odds(0, 1, what), OUTSIDE);
            amidst("games, what " + what, x -> x.games(1, 0, what), OUTSIDE);
            amidst("count, what " + what, x -> x.count(what), OUTSIDE);
        }
    }

    private static void seen() {
        refused("see a seventh that is so", RefusalTest::full, x -> x.see(0, 7, true), FULL);
        refused("see a seventh that is not", RefusalTest::full, x -> x.see(2, 0, false), FULL);
        refused("nobody, a wrong tail, a seventh", RefusalTest::full, x -> x.see(3, 8, true), UNKNOWN);
        refused("nobody, a seventh", RefusalTest::full, x -> x.see(-1, 0, true), UNKNOWN);
        refused("a wrong tail, a seventh", RefusalTest::full, x -> x.see(0, 8, true), OUTSIDE);
    }

    private static void none(String call, ToIntFunction<TossRows> asked, int want) {
        refused(call + " without a table", RefusalTest::withoutTable, asked, want);
    }

    private static void withoutATable() {
        none("player", x -> x.player(0, 0), UNKNOWN);
        none("as", x -> x.as(0, 0), UNKNOWN);
        none("hits", x -> x.hits(0, 0), UNKNOWN);
        none("toss", x -> x.toss(0), STATE);
        none("anew", x -> x.anew(), STATE);
        none("bet", x -> x.bet(0, 0), UNKNOWN);
        none("be", x -> x.be(0, 0), UNKNOWN);
        none("duel", x -> x.duel(0, 1), UNKNOWN);
        none("answer", x -> x.answer(0, 0), UNKNOWN);
        none("open", x -> x.open(0), STATE);
        none("ring", x -> x.ring(), STATE);
        none("odds", x -> x.odds(0, 1, 0), UNKNOWN);
        none("see", x -> x.see(0, 0, true), UNKNOWN);
        none("games", x -> x.games(1, 0, 0), STATE);
        none("image", x -> x.image(), STATE);
        none("restore", x -> x.restore(), STATE);
        none("table", x -> x.table(), STATE);
        none("count 9", x -> x.count(9), OUTSIDE);
    }

    private static void severalAtOnce() {
        none("player and what", x -> x.player(0, 7), UNKNOWN);
        none("as and kind", x -> x.as(0, 5), UNKNOWN);
        none("hits and tail", x -> x.hits(0, 16), UNKNOWN);
        none("toss and side", x -> x.toss(2), OUTSIDE);
        none("bet and row", x -> x.bet(0, -1), UNKNOWN);
        none("be and kind", x -> x.be(0, 5), UNKNOWN);
        none("answer and what", x -> x.answer(0, 2), UNKNOWN);
        none("open and what", x -> x.open(2), OUTSIDE);
        none("odds and tosses", x -> x.odds(0, 21, 2), UNKNOWN);
        none("see and tail", x -> x.see(0, 16, true), UNKNOWN);
        none("games and times", x -> x.games(100, 0, 0), OUTSIDE);
        none("games and seed", x -> x.games(1, -1, 0), OUTSIDE);
        none("games and what", x -> x.games(1, 0, 3), OUTSIDE);
        amidst("player, and what", x -> x.player(3, 7), UNKNOWN);
        amidst("as, and kind", x -> x.as(3, 5), UNKNOWN);
        amidst("hits, and tail", x -> x.hits(3, 8), UNKNOWN);
        amidst("bet, and row", x -> x.bet(3, 8), UNKNOWN);
        amidst("be, and kind", x -> x.be(3, 5), UNKNOWN);
        amidst("answer, and what", x -> x.answer(3, 2), UNKNOWN);
        amidst("odds, and tosses", x -> x.odds(3, 21, 0), UNKNOWN);
        amidst("odds, and what", x -> x.odds(3, 1, 2), UNKNOWN);
        amidst("odds, tosses and what", x -> x.odds(0, 0, 2), OUTSIDE);
        amidst("games, times, seed and what", x -> x.games(0, -1, 3), OUTSIDE);
    }

    private static void imageThatIsNone() {
        refused("restore, none was kept", () -> Check.withTable("3;phht,mhth"), x -> x.restore(), STATE);
        Supplier<TossRows> another = () -> {
            TossRows x = amidst();
            x.blank();
            Check.write(x, "3;phht,mhth,ettt");
            Check.due("another table", x.table(), 3);
            x.toss(1);
            return x;
        };
        refused("restore, another table since", another, x -> x.restore(), STATE);
    }
}
