/** Promises 13 to 17: duel, answer, open, ring, odds. */
public final class WouldBeTest {
    public static void main(String[] args) {
        duel();
        duelRefusals();
        answerToRowsOfThree();
        answerToOtherKinds();
        answerRefusals();
        open();
        ring();
        odds();
        oddsInAGame();
        oddsRefusals();
        Check.end();
    }

    private static void duel(String one, String other, int forth, int back) {
        TossRows x = Check.withTable((one.length() - 1) + ";" + one + "," + other);
        Check.due("duel of " + one + ", " + other, x.duel(0, 1), forth);
        Check.due("duel of " + other + ", " + one, x.duel(1, 0), back);
    }

    private static void duel() {
        duel("phh", "pth", 250000, 750000);
        duel("phh", "ptt", 500000, 500000);
        duel("phhh", "pthh", 125000, 875000);
        duel("phth", "phht", 333333, 666666);
        duel("phtht", "pthtt", 642857, 357142);
        duel("phht", "phht", 1000000, 1000000);
        duel("phht", "mthh", 1000000, 1000000);
        duel("phht", "ehht", 500000, 1000000);
        duel("ehht", "etth", 1000000, 1000000);
        duel("ehh", "eht", 500000, 500000);
        duel("bhhht", "bhtht", 700000, 300000);
        TossRows x = Check.withTable("3;phhh,pthh");
        Check.tossAll(x, "hh");
        Check.due("a duel is in a new game", x.duel(0, 1), 125000);
    }

    private static void duelRefusals() {
        TossRows x = Check.withTable("3;phhh,pthh");
        Check.due("one alone", x.duel(1, 1), TossRows.UNKNOWN);
        Check.due("first is nobody", x.duel(2, 0), TossRows.UNKNOWN);
        Check.due("second is nobody", x.duel(0, 2), TossRows.UNKNOWN);
        Check.due("below", x.duel(-1, 0), TossRows.UNKNOWN);
        Check.due("nobody against himself", x.duel(-1, -1), TossRows.UNKNOWN);
    }

    private static void answer(TossRows x, int player, String row, int chance) {
        Check.due("answer to " + player, x.answer(player, 0), Check.row(row));
        Check.due("how much against " + player, x.answer(player, 1), chance);
    }

    private static void answerToRowsOfThree() {
        String[] rows = {"hhh", "hht", "hth", "htt", "thh", "tht", "tth", "ttt"};
        String[] best = {"thh", "thh", "hht", "hht", "tth", "tth", "htt", "htt"};
        int[] chance = {875000, 750000, 666666, 666666, 666666, 666666, 750000, 875000};
        for (int i = 0; i < rows.length; i++) {
            answer(Check.withTable("3;phhh,p" + rows[i]), 1, best[i], chance[i]);
        }
    }

    private static void answerToOtherKinds() {
        // a mirror and an other are answered by the row that they hear
        answer(Check.withTable("3;mthh,ptth"), 0, "thh", 750000);
        answer(Check.withTable("3;ottt,ptth"), 0, "thh", 875000);
        // by hh and tt an either hits, so only ht and th are left, as likely each: ht at once, or th and then t
        answer(Check.withTable("2;ehh,ptt"), 0, "ht", 375000);
        // by ht and th a both hits, so hh must come at once
        answer(Check.withTable("2;bht,ptt"), 0, "hh", 250000);
        TossRows x = Check.withTable("2;pth,ptt");
        Check.due("of like ones the least, but not his own", x.answer(0, 0), 1);
        Check.due("as much", x.answer(0, 1), 500000);
    }

    private static void answerRefusals() {
        TossRows x = Check.withTable("3;phhh,pthh");
        Check.due("answer to nobody", x.answer(2, 0), TossRows.UNKNOWN);
        Check.due("answer to nobody, ahead of what", x.answer(-1, 2), TossRows.UNKNOWN);
        Check.due("what 2", x.answer(0, 2), TossRows.OUTSIDE);
        Check.due("what -1", x.answer(0, -1), TossRows.OUTSIDE);
    }

    private static void open() {
        TossRows none = new TossRows();
        Check.due("what ahead of state", none.open(2), TossRows.OUTSIDE);
        Check.due("no table", none.open(0), TossRows.STATE);
        String[] tables = {"2;phh,phh", "3;bhhh,mhhh", "4;phhhh,ehhhh"};
        String[] rows = {"ht", "hth", "hthh"};
        int[] chances = {500000, 666666, 642857};
        for (int i = 0; i < tables.length; i++) {
            TossRows x = Check.withTable(tables[i]);
            Check.due("open of " + tables[i], x.open(0), Check.row(rows[i]));
            Check.due("how much, of " + tables[i], x.open(1), chances[i]);
            Check.due("what 2", x.open(2), TossRows.OUTSIDE);
            Check.due("what -1", x.open(-1), TossRows.OUTSIDE);
        }
    }

    private static void ring(String table, int want) {
        Check.due("ring of " + table, Check.withTable(table).ring(), want);
    }

    private static void ring() {
        Check.due("no table", new TossRows().ring(), TossRows.STATE);
        ring("3;phht,phtt,ptth,pthh", 15);
        ring("3;phht,ptth,phtt,pthh", 15);
        ring("3;phht,phtt,ptth", 0);
        ring("3;phhh,pthh", 0);
        ring("3;phhh,phhh,phhh,phhh", 0);
        // a ring of three, forth and back, wherever the fourth one sits
        ring("4;phhth,pthht,phthh", 7);
        ring("4;phthh,pthht,phhth", 7);
        ring("4;phhhh,phhth,pthht,phthh", 14);
        ring("4;phhth,phhhh,pthht,phthh", 13);
        ring("4;phhth,pthht,phhhh,phthh", 11);
        ring("4;phhth,pthht,phthh,phhhh", 7);
        // two rings of three: the least bits
        ring("4;phhth,pthht,phthh,phhth", 7);
        ring("4;phhth,phhth,pthht,phthh", 13);
    }

    private static void odds(TossRows x, int player, int tosses, int above, int below) {
        Check.due("odds above of " + player + " in " + tosses, x.odds(player, tosses, 0), above);
        Check.due("odds below of " + player + " in " + tosses, x.odds(player, tosses, 1), below);
    }

    private static void odds() {
        TossRows x = Check.withTable("2;phh,pth");
        odds(x, 0, 1, 0, 1);
        odds(x, 0, 2, 1, 4);
        odds(x, 0, 20, 1, 4);
        odds(x, 1, 2, 1, 4);
        odds(x, 1, 3, 1, 2);
        odds(x, 1, 4, 5, 8);
        // th never comes of 20 tosses, if it is hh.. ahead, or h or nothing, and all others t
        odds(x, 1, 20, 3 * (1 << 18) - 2 >> 1, 1 << 19);
        TossRows both = Check.withTable("2;bhh,bht");
        odds(both, 0, 2, 1, 2);
        odds(both, 1, 2, 1, 2);
        TossRows same = Check.withTable("2;phh,ehh,ott");
        odds(same, 0, 2, 1, 4);
        odds(same, 2, 2, 1, 4);
        odds(same, 1, 20, (1 << 19) - 1, 1 << 19);
    }

    private static void oddsInAGame() {
        TossRows x = Check.withTable("3;phhh,phht");
        Check.tossAll(x, "hh");
        odds(x, 0, 1, 1, 2);
        odds(x, 1, 1, 1, 2);
        odds(x, 1, 20, 1, 2);
        x.bet(1, Check.row("hth"));
        odds(x, 1, 1, 0, 1);
        odds(x, 1, 2, 1, 4);
        // all ways are won
        TossRows y = Check.withTable("2;eht,ehh");
        y.toss(0);
        y.bet(1, Check.row("ht"));
        y.be(0, Check.EITHER);
        odds(y, 0, 1, 1, 2);
        y.bet(0, Check.row("hh"));
        y.bet(1, Check.row("hh"));
        odds(y, 0, 1, 1, 2);
        odds(y, 0, 2, 3, 4);
        long before = y.digest();
        y.odds(0, 20, 0);
        Check.due("odds change nothing", y.digest(), before);
    }

    private static void oddsRefusals() {
        TossRows x = Check.withTable("2;phh,pth");
        Check.due("odds of nobody", x.odds(2, 1, 0), TossRows.UNKNOWN);
        Check.due("odds of nobody, ahead of all", x.odds(-1, 0, 2), TossRows.UNKNOWN);
        Check.due("no tosses", x.odds(0, 0, 0), TossRows.OUTSIDE);
        Check.due("21 tosses", x.odds(0, 21, 0), TossRows.OUTSIDE);
        Check.due("less than none", x.odds(0, Integer.MIN_VALUE, 0), TossRows.OUTSIDE);
        Check.due("what 2", x.odds(0, 1, 2), TossRows.OUTSIDE);
        Check.due("what -1", x.odds(0, 1, -1), TossRows.OUTSIDE);
    }
}
