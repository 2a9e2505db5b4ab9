import java.util.ArrayList;
import java.util.List;

/** All that is told of an object by calls that change nothing, so that two objects can be compared. */
final class Told {
    private Told() {
    }

    static List<Long> all(TossRows x) {
        List<Long> told = new ArrayList<>();
        told.add(x.digest());
        told.add((long) x.fault());
        for (int what = 0; what <= 8; what++) {
            told.add((long) x.count(what));
        }
        for (int p = 0; p < x.count(0); p++) {
            addPlayer(told, x, p);
        }
        told.add((long) x.ring());
        for (int what = 0; what <= 1; what++) {
            told.add((long) x.open(what));
        }
        for (int what = 0; what <= 2; what++) {
            told.add((long) x.games(99, 5, what));
        }
        return told;
    }

    private static void addPlayer(List<Long> told, TossRows x, int player) {
        for (int what = 0; what <= 6; what++) {
            told.add((long) x.player(player, what));
        }
        for (int tail = 0; tail < 1 << x.count(1); tail++) {
            told.add((long) x.hits(player, tail));
        }
        for (int what = 0; what <= 1; what++) {
            told.add((long) x.answer(player, what));
            told.add((long) x.odds(player, 1, what));
            told.add((long) x.odds(player, 20, what));
        }
        for (int other = 0; other < x.count(0); other++) {
            told.add((long) x.duel(player, other));
        }
    }

    /** What is told now, of the next tosses, and behind going on from the image. */
    static List<Long> allAndWhatComes(TossRows x) {
        List<Long> told = all(x);
        for (int side : new int[] {0, 1, 1, 0, 0, 0}) {
            told.add((long) x.toss(side));
        }
        told.add((long) x.restore());
        told.addAll(all(x));
        return told;
    }
}
