/** Promises 9 to 12: the last that is let in and the first that is not, what is empty and full. */
public final class DoneEdgeTest {
    private static final int[] FAR = {Integer.MIN_VALUE, Integer.MAX_VALUE};

    public static void main(String[] args) {
        sides();
        whoHits();
        mostTosses();
        tossesOfOtherGames();
        anewOfNoneAndSome();
        anewLeavesTheRest();
        rowsToBetOn();
        betLeavesTheGame();
        kindsToBe();
        beLeavesTheGame();
        Check.end();
    }

    private static void sides() {
        Check.sentence("9: OUTSIDE: side (0 heads, 1 tails); STATE: no TABLE");
        TossRows x = Check.withTable("2;phh,ptt");
        Check.due("heads", x.toss(0), 0);
        Check.due("tails", x.toss(1), 0);
        Check.due("tail", x.count(4), Check.row("ht"));
        TossRows none = new TossRows();
        for (int side : new int[] {-1, 2, FAR[0], FAR[1]}) {
            Check.due("side " + side, x.toss(side), TossRows.OUTSIDE);
            Check.due("side " + side + " without a table", none.toss(side), TossRows.OUTSIDE);
        }
        Check.due("two tosses were", x.count(3), 2);
        Check.due("heads without a table", none.toss(0), TossRows.STATE);
        Check.due("tails without a table", none.toss(1), TossRows.STATE);
    }

    private static void whoHits() {
        Check.sentence("9: who HITS, as bits (0: nobody, this GAME goes on)");
        TossRows x = Check.withTable("2;phh,pht,pth,ptt");
        Check.due("one toss", x.toss(0), 0);
        Check.due("goes on", x.count(2), 1);
        Check.due("the first", x.toss(0), 1);
        Check.due("is over", x.count(2), 0);
        Check.due("the second", Check.tossAll(x, "ht"), 2);
        Check.due("the third", Check.tossAll(x, "th"), 4);
        Check.due("the last", Check.tossAll(x, "tt"), 8);
        x.bet(0, 3);
        x.be(2, Check.MIRROR);
        x.bet(2, 3);
        x.be(1, Check.BOTH);
        x.bet(1, 0);
        Check.due("all", Check.tossAll(x, "tt"), 15);
    }

    /** No run of 512 calls comes so far; the limit is tested all the same, for the document tells it. */
    private static void mostTosses() {
        Check.sentence("9: FULL: 9999 were.");
        TossRows x = Check.withTable("2;phh,phh");
        for (int i = 1; i <= 9998; i++) {
            x.toss(1);
        }
        x.image();
        Check.due("the 9999th", x.toss(0), 0);
        Check.due("9999 were", x.count(3), 9999);
        Check.due("the 10000th", x.toss(0), TossRows.FULL);
        Check.due("on a wrong side", x.toss(2), TossRows.OUTSIDE);
        Check.due("9999 as before", x.count(3), 9999);
        Check.due("all in this game", x.count(2), 9999);
        Check.due("the tail as before", x.count(4), Check.row("th"));
        Check.due("nobody has won", x.count(5), 0);
        Check.due("anew", x.anew(), 9999);
        Check.due("9999 in all", x.count(3), 9999);
        Check.due("the 10000th in another game", x.toss(0), TossRows.FULL);
        Check.due("from the image on", x.restore(), 9998);
        Check.due("the 9999th again", x.toss(1), 0);
        Check.due("the 10000th again", x.toss(1), TossRows.FULL);
        Check.write(x, "2;phh,phh");
        Check.due("another table", x.table(), 2);
        Check.due("the first of its own", x.toss(1), 0);
    }

    private static void tossesOfOtherGames() {
        Check.sentence("how many TOSSES there were");
        TossRows x = Check.withTable("2;phh,ptt");
        Check.tossAll(x, "hhttht");
        Check.due("in all", x.count(3), 6);
        Check.due("in this game", x.count(2), 2);
    }

    private static void anewOfNoneAndSome() {
        Check.sentence("10: how many TOSSES there were in it. STATE: no TABLE.");
        Check.due("without a table", new TossRows().anew(), TossRows.STATE);
        TossRows x = Check.withTable("4;phhhh,phhhh");
        Check.due("none", x.anew(), 0);
        x.toss(1);
        Check.due("one", x.anew(), 1);
        Check.due("none again", x.anew(), 0);
        Check.tossAll(x, "tttttt");
        Check.due("more than rows are long", x.anew(), 6);
        Check.due("a game that is over", Check.tossAll(x, "hhhh"), 3);
        Check.due("none of the next one", x.anew(), 0);
        // what was tossed ahead of it does not count for a row
        Check.tossAll(x, "hhh");
        x.anew();
        Check.due("one head", x.toss(0), 0);
        Check.due("no tail", x.count(4), TossRows.NONE);
    }

    private static void anewLeavesTheRest() {
        Check.sentence("10: This GAME is begun anew");
        TossRows x = Check.withTable("2;phh,pht");
        Check.tossAll(x, "hh");
        Check.tossAll(x, "tt");
        x.see(0, 0, true);
        Check.write(x, "3;");
        x.anew();
        int[] want = {2, 2, 0, 4, TossRows.NONE, 1, 1, 2, 1};
        for (int what = 0; what < want.length; what++) {
            Check.due("count " + what, x.count(what), want[what]);
        }
        Check.due("won", x.player(0, 2), 1);
    }

    private static void rowsToBetOn() {
        Check.sentence("11: on which he did. UNKNOWN; OUTSIDE: row.");
        for (int size = 2; size <= 4; size++) {
            int top = (1 << size) - 1;
            TossRows x = Check.withTable(size + ";p" + "h".repeat(size) + ",p" + "h".repeat(size));
            Check.due("the last of " + size, x.bet(1, top), 0);
            Check.due("the last again", x.bet(1, top), top);
            for (int row : new int[] {-1, top + 1, 32, FAR[0], FAR[1]}) {
                Check.due("row " + row + " of " + size, x.bet(1, row), TossRows.OUTSIDE);
                Check.due("row " + row + " of nobody", x.bet(2, row), TossRows.UNKNOWN);
            }
            for (int nobody : new int[] {-1, 2, FAR[0], FAR[1]}) {
                Check.due("player " + nobody, x.bet(nobody, 0), TossRows.UNKNOWN);
            }
            Check.due("the row stays", x.player(1, 1), top);
            Check.due("the least of " + size, x.bet(1, 0), top);
            Check.due("of the first one", x.bet(0, 1), 0);
        }
    }

    private static void betLeavesTheGame() {
        Check.sentence("11: A PLAYER bets on another ROW (this GAME goes on)");
        TossRows x = Check.withTable("2;phh,pht");
        Check.tossAll(x, "hh");
        Check.tossAll(x, "tt");
        x.see(0, 1, false);
        Check.due("on what the tail is", x.bet(0, 3), 0);
        Check.due("tosses in this game", x.count(2), 2);
        Check.due("the tail", x.count(4), 3);
        Check.due("won", x.player(0, 2), 1);
        Check.due("kind", x.player(0, 0), Check.PLAIN);
        Check.due("the other one's row", x.player(1, 1), 1);
        Check.due("rows by what is seen", x.player(0, 5), 13);
        Check.due("his row by the next toss", x.toss(1), 1);
    }

    private static void kindsToBe() {
        Check.sentence("12: of which he was. UNKNOWN; OUTSIDE: kind (0 to 4).");
        TossRows x = Check.withTable("2;phh,ptt");
        Check.due("the last kind", x.be(1, 4), 0);
        Check.due("the last kind again", x.be(1, 4), 4);
        for (int kind : new int[] {-1, 5, FAR[0], FAR[1]}) {
            Check.due("kind " + kind, x.be(1, kind), TossRows.OUTSIDE);
            Check.due("kind " + kind + " of nobody", x.be(2, kind), TossRows.UNKNOWN);
        }
        for (int nobody : new int[] {-1, 2, FAR[0], FAR[1]}) {
            Check.due("player " + nobody, x.be(nobody, 0), TossRows.UNKNOWN);
        }
        Check.due("the kind stays", x.player(1, 0), 4);
        Check.due("the first kind", x.be(1, 0), 4);
        Check.due("of the first one", x.be(0, 3), 0);
    }

    private static void beLeavesTheGame() {
        Check.sentence("12: A PLAYER is of another KIND (this GAME goes on)");
        TossRows x = Check.withTable("2;phh,pht");
        Check.tossAll(x, "hh");
        Check.tossAll(x, "tt");
        x.see(0, 1, false);
        Check.due("one who would hit by the tail", x.be(0, Check.OTHER), Check.PLAIN);
        Check.due("tosses in this game", x.count(2), 2);
        Check.due("the tail", x.count(4), 3);
        Check.due("won", x.player(0, 2), 1);
        Check.due("row", x.player(0, 1), 0);
        Check.due("the other one's kind", x.player(1, 0), Check.PLAIN);
        Check.due("rows by what is seen, kind as it is", x.player(0, 5), 11);
        Check.due("his row by the next toss", x.toss(1), 1);
    }
}
