/** Promises 1 to 5: a new object, letter, blank, fault, table. */
public final class TableTest {
    public static void main(String[] args) {
        newObject();
        letter();
        blank();
        fault();
        table();
        tableThatIsNone();
        anotherTable();
        Check.end();
    }

    private static void newObject() {
        TossRows x = new TossRows();
        for (int what = 0; what <= 8; what++) {
            Check.due("new count " + what, x.count(what), what == 4 ? TossRows.NONE : 0);
        }
        Check.due("new player", x.player(0, 0), TossRows.UNKNOWN);
        Check.due("new as", x.as(0, 0), TossRows.UNKNOWN);
        Check.due("new hits", x.hits(0, 0), TossRows.UNKNOWN);
        Check.due("new toss", x.toss(0), TossRows.STATE);
        Check.due("new anew", x.anew(), TossRows.STATE);
        Check.due("new bet", x.bet(0, 0), TossRows.UNKNOWN);
        Check.due("new be", x.be(0, 0), TossRows.UNKNOWN);
        Check.due("new duel", x.duel(0, 1), TossRows.UNKNOWN);
        Check.due("new answer", x.answer(0, 0), TossRows.UNKNOWN);
        Check.due("new open", x.open(0), TossRows.STATE);
        Check.due("new ring", x.ring(), TossRows.STATE);
        Check.due("new odds", x.odds(0, 1, 0), TossRows.UNKNOWN);
        Check.due("new see", x.see(0, 0, true), TossRows.UNKNOWN);
        Check.due("new forget", x.forget(), 0);
        Check.due("new games", x.games(1, 0, 0), TossRows.STATE);
        Check.due("new image", x.image(), TossRows.STATE);
        Check.due("new restore", x.restore(), TossRows.STATE);
    }

    private static void letter() {
        TossRows x = new TossRows();
        Check.due("letter 31", x.letter(31), TossRows.OUTSIDE);
        Check.due("letter 127", x.letter(127), TossRows.OUTSIDE);
        Check.due("letter -1", x.letter(-1), TossRows.OUTSIDE);
        Check.due("letter of a char's width more", x.letter(65536 + 50), TossRows.OUTSIDE);
        Check.due("letter 32", x.letter(32), 1);
        Check.due("letter 126", x.letter(126), 2);
        for (int i = 3; i <= 28; i++) {
            Check.due("letter " + i, x.letter('h'), i);
        }
        Check.due("letter 29", x.letter('h'), TossRows.FULL);
        Check.due("wrong letter on a full page", x.letter(31), TossRows.OUTSIDE);
        Check.due("a full page", x.count(7), 28);
    }

    private static void blank() {
        TossRows x = new TossRows();
        Check.due("blank of none", x.blank(), 0);
        Check.write(x, "2;p");
        Check.due("blank", x.blank(), 3);
        Check.due("blank then", x.count(7), 0);
        Check.due("letter then", x.letter('4'), 1);
        Check.due("fault then", x.fault(), 1);
    }

    private static void fault() {
        fault("", 0);
        fault("2", 1);
        fault("4", 1);
        fault("1", 0);
        fault("5", 0);
        fault(";", 0);
        fault("x;phh", 0);
        fault("2,", 1);
        fault("2;", 2);
        fault("2;h", 2);
        fault("2;P", 2);
        fault("2;p", 3);
        fault("2;px", 3);
        fault("2;ph,", 4);
        fault("2;phhh", 5);
        fault("2;phh,", 6);
        fault("2;phh,,", 6);
        fault("2;phh;", 5);
        fault("2;phh,mht", 9);
        fault("2;phh,mht,ott,eth", 17);
        fault("2;phh,mht,ott,eth,", 17);
        fault("2;phh,mht,ott,ethh", 17);
        fault("3;bhth,pttt", 11);
        fault("3;bht,", 5);
        fault("4;bhhhh,mtttt,ohtht,ethth", 25);
        fault("4;bhhhh,mtttt,ohtht,ethth ", 25);
        fault("4;bhhhh,mtttt,ohtht,eth h", 23);
    }

    private static void fault(String text, int want) {
        TossRows x = new TossRows();
        Check.write(x, text);
        Check.due("fault of " + text, x.fault(), want);
        Check.due("letters behind fault of " + text, x.count(7), text.length());
    }

    private static void table() {
        TossRows x = new TossRows();
        Check.write(x, "3;phht,mhtt,otth,ethh");
        Check.due("table", x.table(), 4);
        Check.due("page then", x.count(7), 0);
        Check.due("players", x.count(0), 4);
        Check.due("long", x.count(1), 3);
        Check.due("read", x.count(8), 1);
        int[] rows = {1, 3, 6, 4};
        for (int p = 0; p < 4; p++) {
            Check.due("kind " + p, x.player(p, 0), p);
            Check.due("row " + p, x.player(p, 1), rows[p]);
        }
        Check.due("a fifth one", x.player(4, 0), TossRows.UNKNOWN);
        TossRows longest = Check.withTable("4;bthht,btttt");
        Check.due("both", longest.player(0, 0), Check.BOTH);
        Check.due("row thht", longest.player(0, 1), 9);
        Check.due("row tttt", longest.player(1, 1), 15);
    }

    private static void tableThatIsNone() {
        String[] none = {"", "2", "2;", "2;p", "2;phh", "2;phh,", "2;phh,p", "2;phh,ph", "2;phh,phhh", "5;phh,phh",
            "2;phh,phh,", "2;phh,phh,phh,phh,", "3;phhh,phh", "2;phh,xhh"};
        for (String text : none) {
            TossRows x = Check.withTable("2;mht,oth");
            x.toss(1);
            x.image();
            Check.write(x, text);
            long before = x.digest();
            Check.due("table of " + text, x.table(), TossRows.STATE);
            Check.due("nothing is changed by " + text, x.digest(), before);
            Check.due("the image stays with " + text, x.restore(), 1);
        }
    }

    private static void anotherTable() {
        TossRows x = Check.withTable("2;phh,pht,ptt");
        Check.tossAll(x, "tthh");
        x.toss(1);
        x.see(0, 0, true);
        x.image();
        Check.write(x, "3;phhh,ohhh");
        Check.due("another table", x.table(), 2);
        Check.due("its players", x.count(0), 2);
        Check.due("its rows", x.count(1), 3);
        for (int what = 2; what <= 7; what++) {
            Check.due("all is gone: count " + what, x.count(what), what == 4 ? TossRows.NONE : 0);
        }
        Check.due("two were read", x.count(8), 2);
        Check.due("won", x.player(0, 2), 0);
        Check.due("rows", x.player(0, 5), 255);
        Check.due("the image is gone", x.restore(), TossRows.STATE);
        Check.due("none of three", x.player(2, 0), TossRows.UNKNOWN);
    }
}
