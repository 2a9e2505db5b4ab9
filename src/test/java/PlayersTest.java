/** Promises 6 to 8: player, as, hits. */
public final class PlayersTest {
    public static void main(String[] args) {
        waits();
        rowsHitBy();
        won();
        rowsAndTry();
        playerRefusals();
        as();
        hits();
        hitsRefusals();
        Check.end();
    }

    private static void wait(String player, int want) {
        String row = player.substring(1);
        TossRows x = Check.withTable(row.length() + ";" + player + ",p" + row);
        Check.due("wait for " + player, x.player(0, 3), want);
    }

    private static void waits() {
        wait("phh", 6000);
        wait("pht", 4000);
        wait("mht", 4000);
        wait("ott", 6000);
        wait("ehh", 3000);
        wait("eht", 3000);
        wait("bth", 3000);
        wait("phhh", 14000);
        wait("phth", 10000);
        wait("phht", 8000);
        wait("mhht", 8000);
        wait("ottt", 14000);
        wait("ehhh", 7000);
        wait("ehht", 5000);
        wait("bhtt", 4500);
        wait("phhhh", 30000);
        wait("phthh", 18000);
        wait("phtht", 20000);
        wait("phhtt", 16000);
        wait("ehhhh", 15000);
        // a new GAME: that some tosses were does not count
        TossRows x = Check.withTable("3;phhh,pttt");
        Check.tossAll(x, "hh");
        Check.due("wait in a game", x.player(0, 3), 14000);
    }

    private static void rowsHitBy() {
        String[] players = {"phht", "mhht", "ohht", "ehht", "bhht", "bhth", "bhhh", "mhth"};
        int[] want = {1, 1, 1, 2, 3, 2, 2, 1};
        for (int i = 0; i < players.length; i++) {
            TossRows x = Check.withTable("3;" + players[i] + ",phhh");
            Check.due("rows hit by " + players[i], x.player(0, 4), want[i]);
        }
        TossRows x = Check.withTable("2;bht,bhh");
        Check.due("rows hit by bht", x.player(0, 4), 2);
        Check.due("rows hit by bhh", x.player(1, 4), 2);
    }

    private static void won() {
        TossRows x = Check.withTable("2;phh,ott,mht");
        Check.tossAll(x, "hh");
        Check.tossAll(x, "hh");
        Check.tossAll(x, "th");
        Check.due("won by 0", x.player(0, 2), 2);
        Check.due("won by 1", x.player(1, 2), 2);
        Check.due("won by 2", x.player(2, 2), 1);
    }

    private static void rowsAndTry() {
        TossRows x = Check.withTable("2;pht,ehh");
        Check.due("rows at first", x.player(0, 5), 15);
        Check.due("try at first", x.player(0, 6), 0);
        Check.due("rows of either at first", x.player(1, 5), 15);
        x.see(0, 0, false);
        Check.due("rows but hh", x.player(0, 5), 14);
        Check.due("try behind hh", x.player(0, 6), 1);
        Check.due("rows of another", x.player(1, 5), 15);
        x.see(0, 1, false);
        Check.due("rows but hh, ht", x.player(0, 5), 12);
        Check.due("try behind ht", x.player(0, 6), 2);
        // KIND as it is now
        x.be(0, Check.EITHER);
        Check.due("no rows", x.player(0, 5), 0);
        Check.due("nothing to try", x.player(0, 6), TossRows.NONE);
        x.be(0, Check.OTHER);
        Check.due("rows of an other", x.player(0, 5), 3);
        Check.due("try for an other", x.player(0, 6), 2);
        x.be(0, Check.MIRROR);
        Check.due("rows of a mirror", x.player(0, 5), 10);
        Check.due("try for a mirror", x.player(0, 6), 2);
        x.be(0, Check.PLAIN);
        x.see(0, 3, true);
        Check.due("the one row", x.player(0, 5), 8);
        Check.due("try for the one row", x.player(0, 6), 0);
        x.see(0, 3, false);
        Check.due("against itself", x.player(0, 5), 0);
        Check.due("try against itself", x.player(0, 6), TossRows.NONE);
        TossRows four = Check.withTable("4;phhhh,btttt");
        Check.due("all rows of four", four.player(0, 5), 65535);
        Check.due("try for a both of four", four.player(1, 6), 1);
    }

    private static void playerRefusals() {
        TossRows x = Check.withTable("2;pht,ehh");
        int[] nobody = {-1, 2, 4, Integer.MAX_VALUE, Integer.MIN_VALUE};
        for (int p : nobody) {
            Check.due("player " + p, x.player(p, 0), TossRows.UNKNOWN);
            Check.due("player ahead of what " + p, x.player(p, 7), TossRows.UNKNOWN);
        }
        Check.due("what 7", x.player(0, 7), TossRows.OUTSIDE);
        Check.due("what -1", x.player(1, -1), TossRows.OUTSIDE);
    }

    private static void as() {
        TossRows x = Check.withTable("2;phh,phh");
        for (int kind = 0; kind <= 4; kind++) {
            x.be(1, kind);
            for (int such = 0; such <= 4; such++) {
                boolean is = such == Check.PLAIN || such == kind || such == Check.EITHER && kind == Check.BOTH;
                Check.due("kind " + kind + " as " + such, x.as(1, such), is ? 1 : TossRows.NONE);
            }
        }
        Check.due("as of nobody", x.as(2, 0), TossRows.UNKNOWN);
        Check.due("as of nobody, ahead of kind", x.as(-1, 5), TossRows.UNKNOWN);
        Check.due("as 5", x.as(0, 5), TossRows.OUTSIDE);
        Check.due("as -1", x.as(0, -1), TossRows.OUTSIDE);
    }

    private static void hits(String player, String... tails) {
        int size = player.length() - 1;
        TossRows x = Check.withTable(size + ";p" + player.substring(1) + "," + player);
        for (int tail = 0; tail < 1 << size; tail++) {
            int want = 0;
            for (String hit : tails) {
                want = Check.row(hit) == tail ? 1 : want;
            }
            Check.due(player + " hits by " + tail, x.hits(1, tail), want);
        }
    }

    private static void hits() {
        hits("phht", "hht");
        hits("mhht", "thh");
        hits("ohht", "tth");
        hits("ehht", "hht", "tth");
        hits("bhht", "hht", "tth", "thh");
        hits("bhth", "hth", "tht");
        hits("phtht", "htht");
        hits("mthhh", "hhht");
        hits("othht", "htth");
        hits("ehhht", "hhht", "ttth");
        hits("bhhht", "hhht", "ttth", "thhh");
        hits("bhtht", "htht", "thth");
        hits("mht", "th");
        hits("bhh", "hh", "tt");
    }

    private static void hitsRefusals() {
        TossRows x = Check.withTable("2;phh,phh");
        Check.due("hits of nobody", x.hits(2, 0), TossRows.UNKNOWN);
        Check.due("hits of nobody, ahead of tail", x.hits(-1, 4), TossRows.UNKNOWN);
        Check.due("hits by 4", x.hits(0, 4), TossRows.OUTSIDE);
        Check.due("hits by -1", x.hits(0, -1), TossRows.OUTSIDE);
        Check.due("hits by 8 of three", Check.withTable("3;phhh,phhh").hits(0, 8), TossRows.OUTSIDE);
        Check.due("hits by 16 of four", Check.withTable("4;phhhh,phhhh").hits(0, 16), TossRows.OUTSIDE);
        Check.due("hits by 15 of four", Check.withTable("4;ptttt,phhhh").hits(0, 15), 1);
    }
}
