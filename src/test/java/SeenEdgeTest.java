/** Promises 18 to 20: the last that is let in and the first that is not, what is empty and full, sums that wrap. */
public final class SeenEdgeTest {
    private static final int[] FAR = {Integer.MIN_VALUE, Integer.MAX_VALUE};

    public static void main(String[] args) {
        whoAndWhichTail();
        sixAtMost();
        sixOfAllTogether();
        kindAsItIs();
        forgetNoneAndAll();
        fewestAndMostTimes();
        seedsAndWhatIsAsked();
        gamesFromNowOn();
        whoHasWonMost();
        seedsThatWrap();
        sidesByTheSeed();
        gamesWouldBe();
        Check.end();
    }

    private static void whoAndWhichTail() {
        Check.sentence("18: UNKNOWN: player; OUTSIDE: tail; FULL.");
        Check.due("without a table", new TossRows().see(0, 0, true), TossRows.UNKNOWN);
        for (int size = 2; size <= 4; size++) {
            int top = (1 << size) - 1;
            TossRows x = Check.withTable(size + ";p" + "h".repeat(size) + ",p" + "h".repeat(size));
            for (int tail : new int[] {-1, top + 1, 32, FAR[0], FAR[1]}) {
                Check.due("tail " + tail + " of " + size, x.see(0, tail, true), TossRows.OUTSIDE);
                Check.due("tail " + tail + " of nobody", x.see(2, tail, false), TossRows.UNKNOWN);
            }
            for (int nobody : new int[] {-1, 2, FAR[0], FAR[1]}) {
                Check.due("player " + nobody, x.see(nobody, 0, true), TossRows.UNKNOWN);
            }
            Check.due("nothing is seen", x.count(6), 0);
            Check.due("the least tail of " + size, x.see(0, 0, false), 1);
            Check.due("the last tail of " + size, x.see(1, top, true), 2);
        }
    }

    private static void sixAtMost() {
        Check.sentence("SEEN (6 at most)");
        TossRows x = Check.withTable("4;phhhh,ptttt");
        for (int i = 0; i < 6; i++) {
            Check.due("see " + i, x.see(0, i, false), i + 1);
            Check.due("rows behind " + i, x.player(0, 5), 65535 - ((2 << i) - 1));
        }
        Check.due("a seventh", x.see(0, 6, false), TossRows.FULL);
        Check.due("one that is seen already", x.see(0, 5, false), TossRows.FULL);
        Check.due("of another one", x.see(1, 0, true), TossRows.FULL);
        Check.due("six are", x.count(6), 6);
        Check.due("rows as before", x.player(0, 5), 65535 - 63);
        Check.due("six were", x.forget(), 6);
        Check.due("the first again", x.see(0, 6, false), 1);
    }

    private static void sixOfAllTogether() {
        Check.sentence("18: It is SEEN: how much is.");
        TossRows x = Check.withTable("2;phh,pht,pth,ptt");
        for (int i = 0; i < 6; i++) {
            Check.due("see " + i, x.see(i % 4, i % 4, i < 4), i + 1);
        }
        Check.due("of one of whom nothing is seen but one", x.see(3, 3, true), TossRows.FULL);
        // what was seen of the first two is against itself
        int[] rows = {0, 0, 4, 8};
        for (int p = 0; p < 4; p++) {
            Check.due("rows of " + p, x.player(p, 5), rows[p]);
        }
    }

    private static void kindAsItIs() {
        Check.sentence("ROWS he can have bet on, KIND as it is");
        TossRows x = Check.withTable("3;phhh,phhh");
        x.see(0, Check.row("hht"), true);
        int[] rows = {1 << 1, 1 << 4, 1 << 6, 1 << 1 | 1 << 6, 1 << 1 | 1 << 6 | 1 << 4};
        for (int kind = 0; kind < rows.length; kind++) {
            x.be(0, kind);
            Check.due("rows of kind " + kind, x.player(0, 5), rows[kind]);
        }
        x.forget();
        x.see(0, Check.row("hht"), false);
        for (int kind = 0; kind < rows.length; kind++) {
            x.be(0, kind);
            Check.due("other rows of kind " + kind, x.player(0, 5), 255 - rows[kind]);
        }
    }

    private static void forgetNoneAndAll() {
        Check.sentence("19: Nothing is SEEN any more: how much was.");
        Check.due("without a table", new TossRows().forget(), 0);
        TossRows x = Check.withTable("2;phh,ptt");
        long before = x.digest();
        Check.due("none was", x.forget(), 0);
        for (int many = 1; many <= 6; many++) {
            for (int i = 0; i < many; i++) {
                x.see(i % 2, i % 4, true);
            }
            Check.due("so many were", x.forget(), many);
            Check.due("none is", x.count(6), 0);
            Check.due("rows of 0", x.player(0, 5), 15);
            Check.due("rows of 1", x.player(1, 5), 15);
            Check.due("all is as before", x.digest(), before);
        }
    }

    private static void fewestAndMostTimes() {
        Check.sentence("20: OUTSIDE: times (1 to 99)");
        // each game is over by its second toss
        TossRows x = Check.withTable("2;eht,ehh");
        for (int times = 1; times <= 99; times++) {
            Check.due(times + " times", x.games(times, 3, 0), times / 2);
        }
        for (int times : new int[] {-1, 0, 100, FAR[0], FAR[1]}) {
            for (int what = 0; what <= 2; what++) {
                Check.due(times + " times, what " + what, x.games(times, 3, what), TossRows.OUTSIDE);
            }
            Check.due(times + " times without a table", new TossRows().games(times, 3, 0), TossRows.OUTSIDE);
        }
    }

    private static void seedsAndWhatIsAsked() {
        Check.sentence("20: seed (0 at least), what; STATE: no TABLE.");
        TossRows x = Check.withTable("2;eht,ehh");
        TossRows none = new TossRows();
        for (int seed : new int[] {0, FAR[1]}) {
            Check.due("seed " + seed, x.games(2, seed, 0), 1);
            Check.due("seed " + seed + " without a table", none.games(2, seed, 0), TossRows.STATE);
        }
        for (int seed : new int[] {-1, FAR[0]}) {
            for (int what = 0; what <= 2; what++) {
                Check.due("seed " + seed + ", what " + what, x.games(1, seed, what), TossRows.OUTSIDE);
            }
            Check.due("seed " + seed + " without a table", none.games(1, seed, 0), TossRows.OUTSIDE);
        }
        for (int what : new int[] {-1, 3, FAR[0], FAR[1]}) {
            Check.due("what " + what, x.games(1, 0, what), TossRows.OUTSIDE);
            Check.due("what " + what + " without a table", none.games(1, 0, what), TossRows.OUTSIDE);
        }
        for (int what = 0; what <= 2; what++) {
            Check.due("what " + what + " without a table", none.games(99, 0, what), TossRows.STATE);
        }
    }

    private static void gamesFromNowOn() {
        Check.sentence("so many TOSSES, from this GAME as it is now on");
        TossRows x = Check.withTable("2;eht,ehh");
        x.toss(0);
        Check.due("over by the first", x.games(1, 3, 0), 1);
        Check.due("over by the first, behind heads, by heads", x.games(1, Draws.firstSeedFor("h"), 1), 1);
        Check.due("over by the first, behind heads, by tails", x.games(1, Draws.firstSeedFor("t"), 1), 0);
        Check.due("99 times", x.games(99, 3, 0), 50);
        x.anew();
        Check.due("99 times anew", x.games(99, 3, 0), 49);
        // the next game begins with nothing: four heads are no two rows of three
        TossRows y = Check.withTable("3;phhh,phhh");
        Check.due("four heads", y.games(4, Draws.firstSeedFor("hhhh"), 0), 1);
        Check.due("five heads", y.games(5, Draws.firstSeedFor("hhhhh"), 0), 1);
        Check.due("six heads", y.games(6, Draws.firstSeedFor("hhhhhh"), 0), 2);
        // a whole tail is there, and one more toss makes another
        Check.tossAll(y, "tth");
        Check.due("two heads more", y.games(2, Draws.firstSeedFor("hh"), 0), 1);
    }

    private static void whoHasWonMost() {
        Check.sentence("which PLAYER has WON most of these (of like ones the least; of none, too)");
        TossRows x = Check.withTable("2;phh,pht,pth,ptt");
        Check.due("of none", x.games(1, 0, 1), 0);
        Check.due("the last alone", x.games(2, Draws.firstSeedFor("tt"), 1), 3);
        Check.due("two and three, one each", x.games(4, Draws.firstSeedFor("ttth"), 1), 2);
        Check.due("one and two, one each", x.games(4, Draws.firstSeedFor("thht"), 1), 1);
        Check.due("three twice, one once", x.games(6, Draws.firstSeedFor("htt" + "ttt"), 1), 3);
        Check.due("all of one game", x.games(3, Draws.firstSeedFor("tth"), 1), 3);
        // what was won before does not count
        Check.tossAll(x, "hhhhhh");
        Check.due("the last, by these alone", x.games(2, Draws.firstSeedFor("tt"), 1), 3);
        Check.due("won as before", x.player(0, 2), 3);
        // more than one have won the same game
        TossRows y = Check.withTable("2;pht,phh,ehh,btt");
        Check.due("three by one toss", y.games(2, Draws.firstSeedFor("hh"), 1), 1);
        Check.due("two by one toss", y.games(2, Draws.firstSeedFor("tt"), 1), 2);
    }

    private static void seedsThatWrap() {
        Check.sentence("the next SEED each time: 1103515245 times it and 12345, its rest by 2 to the 31");
        TossRows x = Check.withTable("2;eht,ehh");
        Check.due("of 0", x.games(1, 0, 2), 12345);
        Check.due("of 1, below 2 to the 31", x.games(1, 1, 2), 1103527590);
        Check.due("of 2, above it", x.games(1, 2, 2), 59559187);
        Check.due("of the most", x.games(1, Integer.MAX_VALUE, 2), 1043980748);
        int[] then = {0, 1, 65535, 65536, 1 << 30, Integer.MAX_VALUE - 1, Integer.MAX_VALUE};
        for (int seed : then) {
            Check.due("so that it is " + seed, x.games(1, Draws.before(seed), 2), seed);
            Check.due("by two so that it is " + seed, x.games(2, Draws.before(Draws.before(seed)), 2), seed);
        }
        int seed = 2026;
        for (int times = 1; times <= 99; times++) {
            seed = Draws.next(seed);
            Check.due(times + " times", x.games(times, 2026, 2), seed);
        }
    }

    private static void sidesByTheSeed() {
        Check.sentence("then that by 65536 (rounded down), its rest");
        TossRows x = Check.withTable("2;phh,pht");
        x.toss(0);
        int[] heads = {0, 65535, 131072, 131072 + 65535, Integer.MAX_VALUE - 65536};
        int[] tails = {65536, 131071, 196608, Integer.MAX_VALUE - 65535, Integer.MAX_VALUE};
        for (int seed : heads) {
            Check.due("heads by " + seed, x.games(1, Draws.before(seed), 1), 0);
        }
        for (int seed : tails) {
            Check.due("tails by " + seed, x.games(1, Draws.before(seed), 1), 1);
        }
    }

    private static void gamesWouldBe() {
        Check.sentence("GAMES by a SEED, as they would be");
        TossRows x = Check.withTable("3;phht,bthh,mttt");
        Check.tossAll(x, "hhtth");
        x.see(1, 3, true);
        long before = x.digest();
        for (int what = 0; what <= 2; what++) {
            int told = x.games(99, 77, what);
            Check.due("again, what " + what, x.games(99, 77, what), told);
        }
        Check.due("all is as before", x.digest(), before);
    }
}
