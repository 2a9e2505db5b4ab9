/** Promises 6 to 8: the last that is let in and the first that is not, what is empty and full. */
public final class PlayersEdgeTest {
    public static void main(String[] args) {
        whatIsAsked();
        shortestAndLongestWait();
        waitOfAnotherGame();
        fewestAndMostRows();
        rowsFromAllToNone();
        tryAtWorst();
        tryOfLikeOnes();
        tryOfNone();
        kinds();
        castFails();
        tails();
        Check.end();
    }

    private static void whatIsAsked() {
        Check.sentence("6: what = 0 KIND .. 6 TRY (NONE). UNKNOWN; OUTSIDE.");
        TossRows x = Check.withTable("2;mht,btt");
        int[] want = {Check.MIRROR, 1, 0, 4000, 1, 15, 0};
        for (int what = 0; what < want.length; what++) {
            Check.due("what " + what, x.player(0, what), want[what]);
        }
        for (int what : new int[] {-1, 7, Integer.MIN_VALUE, Integer.MAX_VALUE}) {
            Check.due("what " + what, x.player(0, what), TossRows.OUTSIDE);
            Check.due("what " + what + " of the last", x.player(1, what), TossRows.OUTSIDE);
            Check.due("what " + what + " of nobody", x.player(2, what), TossRows.UNKNOWN);
        }
        for (int nobody : new int[] {-1, 2, Integer.MIN_VALUE, Integer.MAX_VALUE}) {
            Check.due("player " + nobody, x.player(nobody, 0), TossRows.UNKNOWN);
        }
    }

    private static void wait(String player, int want) {
        String row = player.substring(1);
        TossRows x = Check.withTable(row.length() + ";p" + row + "," + player);
        Check.due("wait for " + player, x.player(1, 3), want);
    }

    private static void shortestAndLongestWait() {
        Check.sentence("WAIT for a PLAYER: on an average how many TOSSES there are in a new GAME until he HITS");
        // an either of two: the second toss is as the first one, or not: 1 and 2 on an average
        wait("eht", 3000);
        wait("ehh", 3000);
        // of a plain one: 2 and 4 and 8 and 16, if each beginning is an end, too; the last of these, if none is
        wait("phh", 6000);
        wait("pht", 4000);
        wait("phhh", 14000);
        wait("pttt", 14000);
        wait("phhhh", 30000);
        wait("ptttt", 30000);
        wait("phhht", 16000);
        Check.sentence("told as thousandths, rounded down");
        // no whole number of tosses: a BOTH by three rows, 9 halves and 33 quarters
        wait("bhht", 4500);
        wait("bhtt", 4500);
        wait("bhhht", 8250);
        wait("bhhth", 8250);
    }

    private static void waitOfAnotherGame() {
        Check.sentence("in a new GAME until he HITS, if it goes on whoever else does");
        TossRows x = Check.withTable("2;phh,ehh,eht");
        Check.due("others would end it ahead of him", x.player(0, 3), 6000);
        x.toss(0);
        Check.due("one toss was in this game", x.player(0, 3), 6000);
        x.bet(0, 1);
        Check.due("another row", x.player(0, 3), 4000);
        x.be(0, Check.BOTH);
        Check.due("another kind", x.player(0, 3), 3000);
    }

    private static void rows(String player, int want) {
        String row = player.substring(1);
        TossRows x = Check.withTable(row.length() + ";" + player + ",p" + row);
        Check.due("rows of " + player, x.player(0, 4), want);
    }

    private static void fewestAndMostRows() {
        Check.sentence("6: 4 by how many rows he HITS");
        for (String row : new String[] {"hh", "th", "hth", "tht", "hhht", "tttt"}) {
            rows("p" + row, 1);
            rows("m" + row, 1);
            rows("o" + row, 1);
            rows("e" + row, 2);
        }
        Check.sentence("a BOTH, if that is so, or if it is his ROW read from its end");
        // three different rows; or two, if the row is the same from its end, or with each letter the other one then
        rows("bhht", 3);
        rows("bhhht", 3);
        rows("bttht", 3);
        rows("bhth", 2);
        rows("bhhh", 2);
        rows("bhtth", 2);
        rows("bhh", 2);
        rows("bht", 2);
        rows("bhhtt", 2);
        rows("bhtht", 2);
    }

    private static void rowsFromAllToNone() {
        Check.sentence("ROWS he can have bet on, KIND as it is, so that all that is SEEN of him is so: as bits.");
        int[] all = {15, 255, 65535};
        for (int size = 2; size <= 4; size++) {
            String last = "t".repeat(size);
            TossRows x = Check.withTable(size + ";p" + last + ",b" + last);
            int top = (1 << size) - 1;
            Check.due("all of " + size, x.player(0, 5), all[size - 2]);
            Check.due("all of " + size + " of a both", x.player(1, 5), all[size - 2]);
            x.see(0, 0, false);
            Check.due("all but the least", x.player(0, 5), all[size - 2] - 1);
            x.see(0, top, false);
            Check.due("all but the least and the last", x.player(0, 5), all[size - 2] - 1 - (1 << top));
            x.forget();
            x.see(0, top, true);
            Check.due("the last alone", x.player(0, 5), 1 << top);
            x.see(0, top, true);
            Check.due("the last alone, seen twice", x.player(0, 5), 1 << top);
            x.see(0, 0, true);
            Check.due("none", x.player(0, 5), 0);
            Check.due("of another one nothing is seen", x.player(1, 5), all[size - 2]);
        }
    }

    private static void tryAtWorst() {
        Check.sentence("which TAIL to try next, so that fewest of these are left at worst");
        // a both of three: by hhh two rows hit, so six are left at worst; by hht three do, so five are
        TossRows x = Check.withTable("3;bhhh,phhh");
        Check.due("try for a both", x.player(0, 6), Check.row("hht"));
        // hht, tth, thh are left: by hht all hit; by thh and htt not all do
        x.see(0, Check.row("hht"), true);
        Check.due("rows then", x.player(0, 5), 1 << 1 | 1 << 6 | 1 << 4);
        Check.due("try then", x.player(0, 6), Check.row("htt"));
        // by htt each of these hits but hht
        x.see(0, Check.row("htt"), false);
        Check.due("rows at last", x.player(0, 5), 1 << 1);
        Check.due("try at last", x.player(0, 6), 0);
    }

    private static void tryOfLikeOnes() {
        Check.sentence("of like ones the least");
        TossRows x = Check.withTable("4;phhhh,othth");
        Check.due("each leaves 15", x.player(0, 6), 0);
        for (int tail = 0; tail < 6; tail++) {
            x.see(0, tail, false);
            Check.due("the next one that can be", x.player(0, 6), tail + 1);
        }
        Check.due("of an other, each leaves 15", x.player(1, 6), 0);
        x.forget();
        x.see(1, 0, false);
        Check.due("of an other behind hhhh", x.player(1, 6), 1);
        x.see(0, 15, true);
        Check.due("one row is left, whatever is tried", x.player(0, 6), 0);
        // both rows that are left hit by the same tails
        TossRows either = Check.withTable("2;ehh,ehh");
        either.see(0, 1, true);
        Check.due("ht and th", either.player(0, 5), 6);
        Check.due("two are left, whatever is tried", either.player(0, 6), 0);
    }

    private static void tryOfNone() {
        Check.sentence("none, if there are none");
        TossRows x = Check.withTable("2;phh,ptt");
        x.see(0, 0, true);
        Check.due("one row is left", x.player(0, 6), 0);
        x.see(0, 0, false);
        Check.due("no row is left", x.player(0, 5), 0);
        Check.due("nothing to try", x.player(0, 6), TossRows.NONE);
        Check.due("of another one", x.player(1, 6), 0);
        x.forget();
        Check.due("all are left again", x.player(0, 6), 0);
    }

    private static void kinds() {
        Check.sentence("7: UNKNOWN; OUTSIDE.");
        TossRows x = Check.withTable("2;phh,btt");
        Check.due("the first kind", x.as(1, 0), 1);
        Check.due("the last kind", x.as(1, 4), 1);
        for (int kind : new int[] {-1, 5, Integer.MIN_VALUE, Integer.MAX_VALUE}) {
            Check.due("kind " + kind, x.as(1, kind), TossRows.OUTSIDE);
            Check.due("kind " + kind + " of nobody", x.as(2, kind), TossRows.UNKNOWN);
        }
        for (int nobody : new int[] {-1, 2, Integer.MIN_VALUE, Integer.MAX_VALUE}) {
            Check.due("player " + nobody, x.as(nobody, 0), TossRows.UNKNOWN);
        }
    }

    private static void castFails() {
        Check.sentence("All are PLAYERS; a BOTH is an EITHER, too.");
        String[] are = {"10000", "11000", "10100", "10010", "10011"};
        TossRows x = Check.withTable("2;phh,phh,phh,phh");
        for (int kind = 0; kind < are.length; kind++) {
            x.be(3, kind);
            for (int as = 0; as < are.length; as++) {
                boolean is = are[kind].charAt(as) == '1';
                Check.due("kind " + kind + " as " + as, x.as(3, as), is ? 3 : TossRows.NONE);
            }
        }
        Check.due("the first one's number", x.as(0, 0), 0);
    }

    private static void tails() {
        Check.sentence("8: UNKNOWN: player; OUTSIDE: tail (a row, by its number).");
        for (int size = 2; size <= 4; size++) {
            int top = (1 << size) - 1;
            TossRows x = Check.withTable(size + ";p" + "h".repeat(size) + ",o" + "h".repeat(size));
            Check.due("the least of " + size, x.hits(0, 0), 1);
            Check.due("the last of " + size, x.hits(0, top), 0);
            Check.due("the least of " + size + " for an other", x.hits(1, 0), 0);
            Check.due("the last of " + size + " for an other", x.hits(1, top), 1);
            // 32 more would be the same bit
            for (int tail : new int[] {-1, top + 1, 32, 32 + top, -32, Integer.MIN_VALUE, Integer.MAX_VALUE}) {
                Check.due("tail " + tail + " of " + size, x.hits(0, tail), TossRows.OUTSIDE);
                Check.due("tail " + tail + " for nobody", x.hits(2, tail), TossRows.UNKNOWN);
            }
            Check.due("player -1", x.hits(-1, 0), TossRows.UNKNOWN);
            Check.due("player 2", x.hits(2, 0), TossRows.UNKNOWN);
        }
    }
}
