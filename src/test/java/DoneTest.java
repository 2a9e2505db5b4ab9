/** Promises 9 to 12: toss, anew, bet, be. */
public final class DoneTest {
    public static void main(String[] args) {
        toss();
        tossRefusals();
        tossesAreFull();
        nextGameBeginsEmpty();
        anew();
        bet();
        be();
        Check.end();
    }

    private static void toss() {
        TossRows x = Check.withTable("3;phth,mhht,ehhh,bthh");
        Check.due("h", x.toss(0), 0);
        Check.due("t", x.toss(1), 0);
        Check.due("hth", x.toss(0), 1);
        Check.due("no toss in the next game", x.count(2), 0);
        Check.due("tosses in all", x.count(3), 3);
        Check.due("thh, mirror and both", Check.tossAll(x, "thh"), 10);
        Check.due("ttt, either", Check.tossAll(x, "ttt"), 4);
        Check.due("htt, both", Check.tossAll(x, "htt"), 8);
        Check.due("hht, both from its end", Check.tossAll(x, "hht"), 8);
        Check.due("won by both", x.player(3, 2), 3);
        Check.due("won by all", x.count(5), 6);
        Check.due("nobody yet", Check.tossAll(x, "tth"), 0);
        Check.due("tail", x.count(4), 6);
        Check.due("hit later, by the latest tosses", x.toss(0), 10);
    }

    private static void tossRefusals() {
        TossRows x = new TossRows();
        Check.due("side ahead of state", x.toss(2), TossRows.OUTSIDE);
        Check.due("no table", x.toss(1), TossRows.STATE);
        x = Check.withTable("2;phh,phh");
        Check.due("side -1", x.toss(-1), TossRows.OUTSIDE);
        Check.due("side 2", x.toss(2), TossRows.OUTSIDE);
        Check.due("nothing was tossed", x.count(3), 0);
    }

    /** No run of 512 calls comes so far; the limit is tested all the same, for the document tells it. */
    private static void tossesAreFull() {
        TossRows x = Check.withTable("2;phh,phh");
        for (int i = 0; i < 9999; i++) {
            x.toss(1);
        }
        Check.due("9999 were", x.toss(1), TossRows.FULL);
        Check.due("side ahead of full", x.toss(2), TossRows.OUTSIDE);
        Check.due("nothing is changed", x.count(3), 9999);
        Check.due("nor this game", x.count(2), 9999);
    }

    private static void nextGameBeginsEmpty() {
        TossRows x = Check.withTable("2;phh,ptt");
        Check.due("hh", Check.tossAll(x, "hh"), 1);
        Check.due("one h of a new game", x.toss(0), 0);
        Check.due("no tail", x.count(4), TossRows.NONE);
        Check.due("hh again", x.toss(0), 1);
    }

    private static void anew() {
        TossRows x = new TossRows();
        Check.due("no table", x.anew(), TossRows.STATE);
        x = Check.withTable("3;phhh,pttt");
        Check.due("nothing to begin anew", x.anew(), 0);
        Check.tossAll(x, "tthhtt");
        Check.due("six were", x.anew(), 6);
        Check.due("none in this game", x.count(2), 0);
        Check.due("six in all", x.count(3), 6);
        Check.due("no tail", x.count(4), TossRows.NONE);
        Check.due("one more is no row", x.toss(1), 0);
    }

    private static void bet() {
        TossRows x = Check.withTable("3;phhh,pttt");
        Check.tossAll(x, "hh");
        Check.due("bet", x.bet(0, 1), 0);
        Check.due("bet again", x.bet(0, 1), 1);
        Check.due("this game goes on", x.count(2), 2);
        Check.due("not hhh", x.toss(0), 0);
        Check.due("hht", x.toss(1), 1);
        Check.due("bet of the other one", x.bet(1, 0), 7);
        Check.due("bet of nobody", x.bet(2, 0), TossRows.UNKNOWN);
        Check.due("bet of nobody, ahead of row", x.bet(-1, 8), TossRows.UNKNOWN);
        Check.due("bet on 8", x.bet(0, 8), TossRows.OUTSIDE);
        Check.due("bet on -1", x.bet(0, -1), TossRows.OUTSIDE);
        Check.due("row of 0", x.player(0, 1), 1);
        Check.due("row of 1", x.player(1, 1), 0);
        // one who bets on the tail as it is has not hit before the next toss
        Check.tossAll(x, "hth");
        Check.due("bet on the tail", x.bet(0, 2), 1);
        Check.due("nothing won by that", x.player(0, 2), 1);
        Check.due("game goes on", x.toss(0), 0);
    }

    private static void be() {
        TossRows x = Check.withTable("3;phht,pttt");
        Check.tossAll(x, "th");
        Check.due("be a mirror", x.be(0, Check.MIRROR), Check.PLAIN);
        Check.due("thh", x.toss(0), 1);
        Check.due("be an other", x.be(0, Check.OTHER), Check.MIRROR);
        Check.due("tth", Check.tossAll(x, "tth"), 1);
        Check.due("be an either", x.be(0, Check.EITHER), Check.OTHER);
        Check.due("be both", x.be(0, Check.BOTH), Check.EITHER);
        Check.due("be both again", x.be(0, Check.BOTH), Check.BOTH);
        Check.due("be of nobody", x.be(2, 0), TossRows.UNKNOWN);
        Check.due("be of nobody, ahead of kind", x.be(-1, 5), TossRows.UNKNOWN);
        Check.due("be 5", x.be(0, 5), TossRows.OUTSIDE);
        Check.due("be -1", x.be(0, -1), TossRows.OUTSIDE);
        Check.due("kind of 0", x.player(0, 0), Check.BOTH);
        Check.due("kind of 1", x.player(1, 0), Check.PLAIN);
        Check.due("row of 0", x.player(0, 1), 1);
    }
}
