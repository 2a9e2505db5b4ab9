/** Promises 18 to 20: see, forget, games. */
public final class SeenTest {
    public static void main(String[] args) {
        see();
        seeRefusals();
        forget();
        games();
        gamesFromThisGameOn();
        gamesByTheSeed();
        gamesRefusals();
        Check.end();
    }

    private static void see() {
        TossRows x = Check.withTable("3;phhh,bhhh");
        Check.due("seen", x.see(1, Check.row("hht"), true), 1);
        // hht itself, tth with all signs other, thh from its end
        Check.due("rows of both", x.player(1, 5), 1 << 1 | 1 << 6 | 1 << 4);
        Check.due("seen again", x.see(1, Check.row("thh"), false), 2);
        Check.due("rows left", x.player(1, 5), 1 << 6);
        Check.due("rows of the other one", x.player(0, 5), 255);
        Check.due("seen of him", x.see(0, 5, false), 3);
        Check.due("rows of him", x.player(0, 5), 255 - 32);
        Check.due("how much is seen", x.count(6), 3);
        x.bet(0, 5);
        Check.due("what he bets on is not what is known", x.player(0, 5), 255 - 32);
    }

    private static void seeRefusals() {
        TossRows x = Check.withTable("2;phh,phh");
        Check.due("nobody", x.see(2, 0, true), TossRows.UNKNOWN);
        Check.due("nobody, ahead of tail", x.see(-1, 4, true), TossRows.UNKNOWN);
        Check.due("tail 4", x.see(0, 4, true), TossRows.OUTSIDE);
        Check.due("tail -1", x.see(0, -1, false), TossRows.OUTSIDE);
        for (int i = 1; i <= 6; i++) {
            Check.due("the same " + i + " times", x.see(0, 2, true), i);
        }
        Check.due("a seventh", x.see(1, 0, true), TossRows.FULL);
        Check.due("tail ahead of full", x.see(1, 4, true), TossRows.OUTSIDE);
        Check.due("nobody ahead of full", x.see(2, 0, true), TossRows.UNKNOWN);
        Check.due("six are seen", x.count(6), 6);
        Check.due("nothing of the seventh", x.player(1, 5), 15);
    }

    private static void forget() {
        TossRows x = Check.withTable("2;phh,phh");
        Check.due("nothing was", x.forget(), 0);
        x.see(0, 0, true);
        x.see(0, 1, true);
        Check.due("rows", x.player(0, 5), 0);
        Check.due("two were", x.forget(), 2);
        Check.due("nothing is", x.count(6), 0);
        Check.due("rows then", x.player(0, 5), 15);
        Check.due("seen anew", x.see(0, 0, true), 1);
        Check.due("rows of that", x.player(0, 5), 1);
    }

    private static void games() {
        // whoever hears hh or ht wins by the second toss of each game
        TossRows x = Check.withTable("2;eht,ehh");
        Check.due("one toss", x.games(1, 3, 0), 0);
        Check.due("who, of none", x.games(1, 3, 1), 0);
        Check.due("99 tosses", x.games(99, 3, 0), 49);
        long before = x.digest();
        x.games(99, 12345, 1);
        Check.due("games change nothing", x.digest(), before);
        TossRows same = Check.withTable("2;ptt,ehh,eht,btt");
        Check.due("of like ones the least", same.games(2, Draws.firstSeedFor("hh"), 1), 1);
        Check.due("only one", same.games(2, Draws.firstSeedFor("ht"), 1), 2);
        Check.due("three of four", same.games(2, Draws.firstSeedFor("tt"), 1), 0);
        Check.due("most", same.games(6, Draws.firstSeedFor("tthhth"), 1), 1);
        Check.due("most of another", same.games(6, Draws.firstSeedFor("htthtt"), 1), 2);
    }

    private static void gamesFromThisGameOn() {
        TossRows x = Check.withTable("3;phht,pttt");
        Check.tossAll(x, "hh");
        Check.due("hht by one more", x.games(1, Draws.firstSeedFor("t"), 0), 1);
        Check.due("hhh is none", x.games(1, Draws.firstSeedFor("h"), 0), 0);
        Check.due("not overlapping", x.games(3, Draws.firstSeedFor("ttt"), 0), 1);
        Check.due("this game is as it was", x.count(2), 2);
        x.toss(1);
        x.toss(1);
        x.toss(1);
        Check.due("won before does not count", x.games(1, Draws.firstSeedFor("t"), 1), 1);
    }

    private static void gamesByTheSeed() {
        int[] seeds = {0, 1, 77, 65535, 65536, 1 << 30, Integer.MAX_VALUE};
        TossRows x = Check.withTable("2;eht,ehh");
        for (int seed : seeds) {
            int then = seed;
            for (int times = 1; times <= 5; times++) {
                then = Draws.next(then);
                Check.due("seed " + seed + " then " + times, x.games(times, seed, 2), then);
            }
        }
    }

    private static void gamesRefusals() {
        TossRows none = new TossRows();
        Check.due("times ahead of state", none.games(0, 1, 0), TossRows.OUTSIDE);
        Check.due("no table", none.games(1, 1, 0), TossRows.STATE);
        TossRows x = Check.withTable("2;eht,ehh");
        Check.due("no times", x.games(0, 1, 0), TossRows.OUTSIDE);
        Check.due("100 times", x.games(100, 1, 0), TossRows.OUTSIDE);
        Check.due("seed -1", x.games(1, -1, 0), TossRows.OUTSIDE);
        Check.due("what 3", x.games(1, 1, 3), TossRows.OUTSIDE);
        Check.due("what -1", x.games(1, 1, -1), TossRows.OUTSIDE);
    }
}
