/** Promises 21 to 24: image, restore, count, digest. */
public final class ToldTest {
    public static void main(String[] args) {
        image();
        restoreBringsAllBack();
        restoreTwice();
        restoreLeavesThePage();
        restoreBehindAnotherTable();
        count();
        digest();
        Check.end();
    }

    private static void image() {
        TossRows x = new TossRows();
        Check.due("no table", x.image(), TossRows.STATE);
        Check.due("none was kept", x.restore(), TossRows.STATE);
        x = Check.withTable("3;phhh,pttt");
        Check.due("still none", x.restore(), TossRows.STATE);
        Check.due("image at once", x.image(), 0);
        Check.tossAll(x, "hhtt");
        Check.due("image behind four", x.image(), 4);
        x.toss(1);
        Check.due("the latest", x.restore(), 4);
    }

    private static void restoreBringsAllBack() {
        TossRows x = Check.withTable("3;phht,mttt,ehht");
        Check.tossAll(x, "hht");
        Check.tossAll(x, "thth");
        x.see(0, 1, true);
        x.see(2, 3, false);
        long before = x.digest();
        Check.due("image", x.image(), 7);
        x.bet(0, 7);
        x.be(1, Check.BOTH);
        Check.tossAll(x, "ttttt");
        x.forget();
        x.see(1, 1, true);
        x.anew();
        Check.holds("all is changed", x.digest() != before);
        Check.due("restore", x.restore(), 7);
        Check.due("as it was", x.digest(), before);
        Check.due("row", x.player(0, 1), 1);
        Check.due("kind", x.player(1, 0), Check.MIRROR);
        Check.due("won", x.player(0, 2), 1);
        Check.due("won by the other", x.player(1, 2), 0);
        Check.due("this game", x.count(2), 4);
        Check.due("tail", x.count(4), Check.row("hth"));
        Check.due("seen", x.count(6), 2);
        Check.due("rows", x.player(0, 5), 2);
        Check.due("other rows", x.player(2, 5), 255 - (1 << 3) - (1 << 4));
    }

    private static void restoreTwice() {
        TossRows x = Check.withTable("2;phh,ptt");
        x.see(0, 0, true);
        x.image();
        for (int i = 0; i < 2; i++) {
            Check.tossAll(x, "hh");
            x.bet(0, 2);
            x.be(1, Check.OTHER);
            x.forget();
            x.see(0, 3, true);
            Check.due("restore " + i, x.restore(), 0);
            Check.due("won " + i, x.count(5), 0);
            Check.due("row " + i, x.player(0, 1), 0);
            Check.due("kind " + i, x.player(1, 0), Check.PLAIN);
            Check.due("rows " + i, x.player(0, 5), 1);
        }
    }

    private static void restoreLeavesThePage() {
        TossRows x = Check.withTable("2;phh,ptt");
        x.image();
        Check.write(x, "3;p");
        x.restore();
        Check.due("page", x.count(7), 3);
        Check.due("read", x.count(8), 1);
    }

    private static void restoreBehindAnotherTable() {
        TossRows x = Check.withTable("2;phh,ptt");
        x.image();
        Check.write(x, "2;phh,ptt");
        x.table();
        Check.due("another table, though alike", x.restore(), TossRows.STATE);
        x.image();
        Check.due("its own image", x.restore(), 0);
    }

    private static void count() {
        TossRows x = Check.withTable("2;phh,phh,ptt");
        Check.tossAll(x, "hhthtt");
        Check.tossAll(x, "ht");
        x.see(0, 0, true);
        Check.write(x, "4;bh");
        int[] want = {3, 2, 2, 8, 1, 3, 1, 4, 1};
        for (int what = 0; what < want.length; what++) {
            Check.due("count " + what, x.count(what), want[what]);
        }
        Check.due("count 9", x.count(9), TossRows.OUTSIDE);
        Check.due("count -1", x.count(-1), TossRows.OUTSIDE);
        x.anew();
        x.toss(1);
        Check.due("no tail by one toss", x.count(4), TossRows.NONE);
        TossRows four = Check.withTable("4;phhhh,phhhh");
        Check.due("no tail by three", Check.tossAll(four, "ttt"), 0);
        Check.due("none", four.count(4), TossRows.NONE);
        four.toss(1);
        Check.due("tail of four", four.count(4), 15);
        four.toss(0);
        Check.due("tail behind five", four.count(4), 14);
        Check.due("five in this game", four.count(2), 5);
    }

    private static void digest() {
        TossRows x = new TossRows();
        digest("none", x, "");
        Check.write(x, "~ 2;");
        digest("none, with a page", x, "~ 2;");
        digest("two", Check.withTable("2;phh,pht"), "");
        TossRows four = Check.withTable("4;bhtht,ohhhh,mthhh,etttt");
        Check.tossAll(four, "hhttht");
        four.see(1, 3, false);
        Check.write(four, "3;p");
        digest("four", four, "3;p");
        Check.write(four, "hht,mttt,bthh");
        four.table();
        digest("three", four, "");
        TossRows ring = Check.withTable("3;phht,phtt,ptth,pthh");
        digest("with a ring", ring, "");
        Check.due("the same calls, the same digest", Check.withTable("3;phht,phtt,ptth,pthh").digest(), ring.digest());
    }

    /** The page's letters are given here, for no call tells them. */
    private static void digest(String name, TossRows x, String page) {
        long h = 1297;
        for (int p = 0; p < x.count(0); p++) {
            for (int what = 0; what <= 6; what++) {
                h = 31 * h + x.player(p, what);
            }
            h = 31 * h + x.answer(p, 0);
            h = 31 * h + x.answer(p, 1);
            h = 31 * h + x.odds(p, 9, 0);
            h = 31 * h + x.odds(p, 9, 1);
        }
        h = 31 * h + x.duel(0, 1);
        h = 31 * h + x.duel(1, 0);
        if (x.count(0) > 0) {
            h = 31 * h + x.ring();
        }
        for (int i = 0; i < page.length(); i++) {
            h = 31 * h + page.charAt(i);
        }
        for (int what = 0; what <= 8; what++) {
            h = 31 * h + x.count(what);
        }
        Check.due("digest of " + name, x.digest(), h);
    }
}
