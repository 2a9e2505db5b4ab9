/** Promises 13 to 17: the last that is let in and the first that is not, like ones, none, lowest terms. */
public final class WouldBeEdgeTest {
    private static final int[] FAR = {Integer.MIN_VALUE, Integer.MAX_VALUE};
    private static final String[] ORDERS = {"012", "021", "102", "120", "201", "210"};

    public static void main(String[] args) {
        whoDuels();
        leastAndMostOfDuels();
        duelsRoundedDown();
        duelsByMostRows();
        duelsInANewGame();
        whatIsAskedOfAnswers();
        answersOfLikeOnes();
        answersByOtherRows();
        whatIsAskedOfOpen();
        openByOtherRows();
        ringOfFewest();
        ringOfNone();
        ringOfLikeOnes();
        fewestAndMostTosses();
        oddsInLowestTerms();
        oddsOfThisGame();
        oddsOfTheFirstToss();
        oddsOfLongRows();
        Check.end();
    }

    private static void whoDuels() {
        Check.sentence("13: UNKNOWN: one, other, or they are the same.");
        for (int players = 2; players <= 4; players++) {
            TossRows x = Check.withTable("2;phh,pth,ptt,pht".substring(0, 1 + 4 * players));
            for (int one = -1; one <= players; one++) {
                for (int other = -1; other <= players; other++) {
                    boolean are = one >= 0 && one < players && other >= 0 && other < players && one != other;
                    int told = x.duel(one, other);
                    String name = "duel " + one + " " + other + " of " + players;
                    Check.holds(name + " answered " + told, are ? told > 0 && told < 1000000 : told == TossRows.UNKNOWN);
                }
            }
            for (int far : FAR) {
                Check.due("first " + far, x.duel(far, 0), TossRows.UNKNOWN);
                Check.due("second " + far, x.duel(0, far), TossRows.UNKNOWN);
                Check.due("both " + far, x.duel(far, far), TossRows.UNKNOWN);
            }
        }
        Check.due("without a table", new TossRows().duel(0, 1), TossRows.UNKNOWN);
        Check.due("without a table, the same", new TossRows().duel(0, 0), TossRows.UNKNOWN);
    }

    private static void duel(String one, String other, int forth, int back) {
        TossRows x = Check.withTable((one.length() - 1) + ";" + one + "," + other);
        Check.due("duel of " + one + ", " + other, x.duel(0, 1), forth);
        Check.due("duel of " + other + ", " + one, x.duel(1, 0), back);
    }

    private static void leastAndMostOfDuels() {
        Check.sentence("how likely the first one HITS at the TOSS by which it is over");
        // heads at once, or never ahead of the other one: one of 4, of 8, of 16
        duel("phh", "pth", 250000, 750000);
        duel("phhh", "pthh", 125000, 875000);
        duel("phhhh", "pthhh", 62500, 937500);
        Check.sentence("(It may be that both do.)");
        duel("phh", "phh", 1000000, 1000000);
        duel("phhht", "mthhh", 1000000, 1000000);
        duel("bhht", "ehht", 1000000, 750000);
        duel("phh", "ehh", 500000, 1000000);
        duel("bhhht", "bttth", 625000, 625000);
    }

    private static void duelsRoundedDown() {
        Check.sentence("told as so many of a million, rounded down");
        // 2 and 1 of 3; 9 and 5 of 14; 25 and 9 of 34
        duel("phht", "phtt", 666666, 333333);
        duel("pthtt", "phtht", 357142, 642857);
        duel("ehtth", "phhhh", 742647, 257352);
    }

    private static void duelsByMostRows() {
        Check.sentence("DUEL of two: if just these two bet");
        // three different rows each: 7 and 5 of 12
        duel("bhhht", "bhhth", 583333, 416666);
        TossRows x = Check.withTable("4;bhhht,bhhth,phhhh,ptttt");
        Check.due("others do not count", x.duel(0, 1), 583333);
        Check.due("nor by the other way", x.duel(1, 0), 416666);
    }

    private static void duelsInANewGame() {
        Check.sentence("in a new GAME");
        TossRows x = Check.withTable("2;phh,pth");
        x.toss(1);
        Check.due("behind tails", x.duel(0, 1), 250000);
        Check.due("behind tails, answer", x.answer(0, 1), 750000);
        Check.due("behind tails, open", x.open(1), 500000);
    }

    private static void whatIsAskedOfAnswers() {
        Check.sentence("14: ANSWER: what = 0 which, 1 how much. UNKNOWN; OUTSIDE.");
        TossRows x = Check.withTable("2;phh,ptt");
        Check.due("which", x.answer(1, 0), Check.row("ht"));
        Check.due("how much", x.answer(1, 1), 750000);
        for (int what : new int[] {-1, 2, FAR[0], FAR[1]}) {
            Check.due("what " + what, x.answer(0, what), TossRows.OUTSIDE);
            Check.due("what " + what + " to nobody", x.answer(2, what), TossRows.UNKNOWN);
        }
        for (int nobody : new int[] {-1, 2, FAR[0], FAR[1]}) {
            Check.due("to " + nobody, x.answer(nobody, 0), TossRows.UNKNOWN);
        }
        Check.due("without a table", new TossRows().answer(0, 0), TossRows.UNKNOWN);
    }

    private static void answer(String player, String row, int chance) {
        TossRows x = Check.withTable((player.length() - 1) + ";p" + player.substring(1) + "," + player);
        Check.due("answer to " + player, x.answer(1, 0), Check.row(row));
        Check.due("how much against " + player, x.answer(1, 1), chance);
    }

    private static void answersOfLikeOnes() {
        Check.sentence("DUEL of that one and him is most, as it is told: of like ones the least: which; how much.");
        // hh and th; ht and tt
        answer("pht", "hh", 500000);
        answer("pth", "ht", 500000);
        // hhh, htt, thh and ttt
        answer("ehht", "hhh", 250000);
        // hhth, htht, thth and ttht
        answer("ehthh", "hhth", 375000);
        // httt and thhh
        answer("ehhhh", "httt", 596590);
        // the last row of all, and none is like it
        TossRows x = Check.withTable("4;phhhh,bhthh");
        Check.due("the last that is best", x.answer(1, 0), Check.row("ttht"));
    }

    private static void answersByOtherRows() {
        Check.sentence("for which ROW by which he does not HIT");
        // by hh and tt, which are better ones, he hits himself
        answer("ehh", "ht", 375000);
        answer("bht", "hh", 250000);
        // hht and thh would be as good, tth better
        answer("bhht", "htt", 250000);
        // his own row would be best of all
        answer("phhhh", "thhh", 937500);
        answer("phtht", "hhth", 714285);
    }

    private static void whatIsAskedOfOpen() {
        Check.sentence("15: OPEN: what = 0 which, 1 how much. OUTSIDE; STATE: no TABLE.");
        TossRows none = new TossRows();
        TossRows x = Check.withTable("2;phh,ptt");
        Check.due("which without a table", none.open(0), TossRows.STATE);
        Check.due("how much without a table", none.open(1), TossRows.STATE);
        for (int what : new int[] {-1, 2, FAR[0], FAR[1]}) {
            Check.due("what " + what, x.open(what), TossRows.OUTSIDE);
            Check.due("what " + what + " without a table", none.open(what), TossRows.OUTSIDE);
        }
    }

    private static void openByOtherRows() {
        Check.sentence("so that the most that DUEL of another one who is plain (with any ROW but that) and him is");
        // ht and th; hth, htt, thh and tht; hthh and thtt
        String[] rows = {"ht", "hth", "hthh"};
        int[] chances = {500000, 666666, 642857};
        for (int size = 2; size <= 4; size++) {
            for (String kinds : new String[] {"pp", "be", "mo"}) {
                String row = "h".repeat(size);
                TossRows x = Check.withTable(size + ";" + kinds.charAt(0) + row + "," + kinds.charAt(1) + row);
                Check.due("which of " + size, x.open(0), Check.row(rows[size - 2]));
                Check.due("how much of " + size, x.open(1), chances[size - 2]);
            }
        }
    }

    /** A table of some players, in this order. */
    private static String ordered(String[] players, String order) {
        StringBuilder text = new StringBuilder().append(players[0].length() - 1).append(';');
        for (int i = 0; i < order.length(); i++) {
            text.append(i == 0 ? "" : ",").append(players[order.charAt(i) - '0']);
        }
        return text.toString();
    }

    private static void ring(String table, int want) {
        Check.due("ring of " + table, Check.withTable(table).ring(), want);
    }

    private static void ringOfFewest() {
        Check.sentence("RING: the fewest PLAYERS (3 at least) who BEAT each the next one, and the last one the first");
        String[] three = {"phhth", "pthht", "phthh", "phhhh"};
        String[] four = {"phht", "phtt", "ptth", "pthh"};
        for (String order : ORDERS) {
            ring(ordered(three, order), 7);
            // the fourth one ahead of them, among them and behind them
            ring(ordered(three, "3" + order), 14);
            ring(ordered(three, order.charAt(0) + "3" + order.substring(1)), 13);
            ring(ordered(three, order.substring(0, 2) + "3" + order.charAt(2)), 11);
            ring(ordered(three, order + "3"), 7);
            // all four, and no three of them
            ring(ordered(four, "3" + order), 15);
            ring(ordered(four, order.charAt(0) + "3" + order.substring(1)), 15);
            ring(ordered(four, order + "3"), 15);
        }
    }

    private static void ringOfNone() {
        Check.sentence("16: RING, as bits. STATE: no TABLE.");
        Check.due("without a table", new TossRows().ring(), TossRows.STATE);
        Check.sentence("as bits: of as many the least bits; 0: none.");
        // two are too few, though one beats the other one
        ring("2;phh,pth", 0);
        ring("2;phh,phh", 0);
        // each of these beats the next, but the last and the first are like
        String[] row = {"phht", "phtt", "ptth"};
        for (String order : ORDERS) {
            ring(ordered(row, order), 0);
        }
        // all are like, and all hit at once
        ring("3;phht,phht,phht", 0);
        ring("3;phht,mthh,ptth,otth", 0);
        ring("2;ehh,ehh,ett,btt", 0);
    }

    private static void ringOfLikeOnes() {
        Check.sentence("of as many the least bits");
        // one of the three sits twice at the table: two rings
        ring("4;phhth,pthht,phthh,phthh", 7);
        ring("4;phhth,pthht,pthht,phthh", 11);
        ring("4;phhth,phhth,pthht,phthh", 13);
        // the same by other kinds
        ring("4;mhthh,pthht,othtt", 7);
        ring("4;mhthh,pthht,ohtth,othtt", 11);
    }

    private static void odds(TossRows x, int player, int tosses, int above, int below) {
        Check.due("above, of " + player + " in " + tosses, x.odds(player, tosses, 0), above);
        Check.due("below, of " + player + " in " + tosses, x.odds(player, tosses, 1), below);
    }

    private static void fewestAndMostTosses() {
        Check.sentence("17: UNKNOWN; OUTSIDE: tosses (1 to 20), what.");
        TossRows x = Check.withTable("2;pht,pth");
        for (int tosses = 1; tosses <= 20; tosses++) {
            // heads first, and tails at some time
            int above = (1 << (tosses - 1)) - 1;
            odds(x, 0, tosses, above, above == 0 ? 1 : 1 << tosses);
            odds(x, 1, tosses, above, above == 0 ? 1 : 1 << tosses);
        }
        for (int tosses : new int[] {-1, 0, 21, 32, 33, FAR[0], FAR[1]}) {
            Check.due("above in " + tosses, x.odds(0, tosses, 0), TossRows.OUTSIDE);
            Check.due("below in " + tosses, x.odds(1, tosses, 1), TossRows.OUTSIDE);
            Check.due("of nobody in " + tosses, x.odds(2, tosses, 0), TossRows.UNKNOWN);
        }
        for (int what : new int[] {-1, 2, FAR[0], FAR[1]}) {
            Check.due("what " + what, x.odds(0, 1, what), TossRows.OUTSIDE);
            Check.due("what " + what + " in 20", x.odds(0, 20, what), TossRows.OUTSIDE);
            Check.due("what " + what + " of nobody", x.odds(-1, 20, what), TossRows.UNKNOWN);
        }
        for (int nobody : new int[] {-1, 2, FAR[0], FAR[1]}) {
            Check.due("of " + nobody, x.odds(nobody, 1, 0), TossRows.UNKNOWN);
        }
        Check.due("without a table", new TossRows().odds(0, 1, 0), TossRows.UNKNOWN);
    }

    private static void oddsInLowestTerms() {
        Check.sentence("17: what = 0 above, 1 below, in lowest terms (0 of 1)");
        TossRows x = Check.withTable("4;phhhh,ehttt");
        for (int tosses = 1; tosses <= 3; tosses++) {
            odds(x, 0, tosses, 0, 1);
            odds(x, 1, tosses, 0, 1);
        }
        odds(x, 0, 4, 1, 16);
        odds(x, 1, 4, 1, 8);
        Check.sentence("is over by so many TOSSES more, or sooner");
        // if it is not heads at once, the other one is first: 1 of 4, 2 of 8, .. 262144 of 1048576
        TossRows y = Check.withTable("2;phh,pth");
        odds(y, 0, 1, 0, 1);
        for (int tosses = 2; tosses <= 20; tosses++) {
            odds(y, 0, tosses, 1, 4);
        }
    }

    private static void oddsOfThisGame() {
        Check.sentence("how likely this GAME, as it is now, is over");
        TossRows x = Check.withTable("2;pht,pth,ehh");
        odds(x, 0, 20, 1, 4);
        x.toss(0);
        odds(x, 0, 1, 1, 2);
        odds(x, 0, 20, 1, 2);
        odds(x, 1, 1, 0, 1);
        odds(x, 1, 20, 0, 1);
        odds(x, 2, 20, 1, 2);
        x.bet(2, 1);
        odds(x, 0, 20, (1 << 20) - 1, 1 << 20);
        odds(x, 1, 20, 0, 1);
        // one who bets on the tail as it is does not hit before the next toss
        x.bet(0, 0);
        x.bet(2, 0);
        x.bet(1, 3);
        x.anew();
        Check.tossAll(x, "ht");
        x.bet(0, 1);
        odds(x, 0, 1, 0, 1);
        odds(x, 1, 1, 1, 2);
        odds(x, 2, 1, 1, 2);
    }

    private static void oddsOfTheFirstToss() {
        Check.sentence("and he HITS at the TOSS by which it is");
        // both hit by hh; what comes behind the first hit does not count
        TossRows x = Check.withTable("2;phh,ehh,bht");
        odds(x, 0, 2, 1, 4);
        odds(x, 1, 2, 1, 2);
        odds(x, 2, 2, 1, 2);
        odds(x, 0, 20, 1, 4);
        odds(x, 1, 20, 1, 2);
        odds(x, 2, 20, 1, 2);
    }

    private static void oddsOfLongRows() {
        Check.sentence("of all rows of so many TOSSES, how many are so: in whole parts");
        TossRows x = Check.withTable("4;phhht,pttth");
        Check.tossAll(x, "hhhhh");
        odds(x, 0, 1, 1, 2);
        odds(x, 0, 20, (1 << 20) - 1, 1 << 20);
        odds(x, 1, 20, 0, 1);
        x.anew();
        Check.tossAll(x, "ttttt");
        odds(x, 1, 1, 1, 2);
        odds(x, 1, 20, (1 << 20) - 1, 1 << 20);
        x.anew();
        // hhht, and by the fifth toss hhhht and thhht
        Check.tossAll(x, "htht");
        odds(x, 0, 3, 0, 1);
        odds(x, 0, 4, 1, 16);
        odds(x, 0, 5, 1, 8);
        // 4 by the fourth toss, 4 by the fifth, 3 by the sixth: not tthhht, for there ttth comes first
        odds(x, 0, 6, 11, 64);
    }
}
