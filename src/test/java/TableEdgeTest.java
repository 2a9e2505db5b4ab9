/** Promises 1 to 5: the last that is let in and the first that is not, what is empty and full. */
public final class TableEdgeTest {
    public static void main(String[] args) {
        noTable();
        codes();
        fullPage();
        behindThePage();
        emptyPage();
        faultOrHowMany();
        tableOrNone();
        pageIsEmptyThen();
        anotherOneIsGone();
        Check.end();
    }

    private static void noTable() {
        Check.sentence("1: No TABLE.");
        TossRows x = new TossRows();
        int[] want = {0, 0, 0, 0, TossRows.NONE, 0, 0, 0, 0};
        for (int what = 0; what < want.length; what++) {
            Check.due("count " + what, x.count(what), want[what]);
        }
        Check.due("fault of no letters", x.fault(), 0);
        Check.due("table of no letters", x.table(), TossRows.STATE);
        Check.due("blank of no letters", x.blank(), 0);
        Check.due("two objects are two", Check.withTable("2;phh,ptt").count(0) + x.count(0), 2);
    }

    private static void codes() {
        Check.sentence("2: OUTSIDE: code (32 to 126)");
        int many = 0;
        TossRows x = new TossRows();
        for (int code = -1; code <= 300; code++) {
            boolean is = code >= 32 && code <= 126;
            many += is ? 1 : 0;
            Check.due("letter " + code, x.letter(code), is ? many : TossRows.OUTSIDE);
            if (many == 28) {
                x = new TossRows();
                many = 0;
            }
        }
        // what would be a letter, if only its lowest bits were read
        int[] far = {Integer.MIN_VALUE, Integer.MIN_VALUE + 'h', 256 + 'h', 65536 + 'h', -65536 + 'h', Integer.MAX_VALUE};
        for (int code : far) {
            Check.due("letter " + code, x.letter(code), TossRows.OUTSIDE);
        }
    }

    private static TossRows pageOf(int many) {
        TossRows x = new TossRows();
        Check.write(x, "2;phh,ptt,mht,oth,eht,bhh,phht".substring(0, many));
        return x;
    }

    private static void fullPage() {
        Check.sentence("2: FULL: above 28.");
        TossRows x = pageOf(27);
        Check.due("the 28th", x.letter(' '), 28);
        Check.due("the 29th", x.letter(' '), TossRows.FULL);
        Check.due("the 29th again", x.letter('~'), TossRows.FULL);
        Check.due("as many as before", x.count(7), 28);
        Check.due("fault of a full page", x.fault(), 17);
        Check.due("table of a full page", x.table(), TossRows.STATE);
        Check.due("blank of a full page", x.blank(), 28);
        Check.due("the first then", x.letter(' '), 1);
    }

    private static void behindThePage() {
        Check.sentence("2: A letter comes behind THE PAGE, told by its code: how many THE PAGE has.");
        TossRows x = new TossRows();
        Check.due("the first", x.letter('2'), 1);
        Check.due("the second", x.letter(';'), 2);
        Check.due("in this order", x.fault(), 2);
        TossRows y = new TossRows();
        Check.due("the other first", y.letter(';'), 1);
        Check.due("the other second", y.letter('2'), 2);
        Check.due("in that order", y.fault(), 0);
    }

    private static void emptyPage() {
        Check.sentence("3: THE PAGE is empty: how many letters it had.");
        for (int many : new int[] {0, 1, 27, 28}) {
            TossRows x = pageOf(many);
            Check.due("blank of " + many, x.blank(), many);
            Check.due("letters then", x.count(7), 0);
            Check.due("fault then", x.fault(), 0);
            Check.due("table then", x.table(), TossRows.STATE);
            Check.due("blank again", x.blank(), 0);
            Check.write(x, "2;phh,ptt");
            Check.due("nothing is left of the letters before", x.table(), 2);
        }
        TossRows x = Check.withTable("2;phh,ptt");
        x.toss(0);
        long before = x.digest();
        Check.write(x, "3;");
        Check.due("blank with a table", x.blank(), 2);
        Check.due("the table stays", x.digest(), before);
    }

    private static void fault(String text, int want) {
        TossRows x = new TossRows();
        Check.write(x, text);
        Check.due("fault of " + text, x.fault(), want);
    }

    private static void faultOrHowMany() {
        Check.sentence("4: The place (from 0) of the first letter of THE PAGE that no TABLE has there");
        fault(" ", 0);
        fault("  ", 0);
        fault("22", 1);
        fault("2;phh,ptt;", 9);
        fault("2;phh,ptt,mht,oth;", 17);
        fault("3;phhh,ptttt", 11);
        fault("4;phhhh,ptttt,mhtht,othth,eh", 25);
        Check.sentence("4: behind those ahead of it");
        // a letter that some table has there, but none behind '2'
        fault("2;phhh", 5);
        fault("3;phh,", 5);
        fault("3;phhh,phh,", 10);
        fault("4;phhh,", 6);
        // only the first one counts
        fault("2;xhh;xhh", 2);
        fault("1;x", 0);
        Check.sentence("4: how many letters it has, if there is none.");
        String whole = "4;phhhh,mtttt,ohtht,bthth";
        for (int many = 0; many <= whole.length(); many++) {
            fault(whole.substring(0, many), many);
        }
    }

    private static void tableOrNone() {
        Check.sentence("5: STATE: it is none.");
        for (String whole : new String[] {"2;phh,mht,oth,btt", "3;phhh,mhtt,otth,bttt", "4;phhhh,mtttt,ohtht,bthth"}) {
            int size = whole.charAt(0) - '0';
            for (int many = 0; many <= whole.length(); many++) {
                TossRows x = new TossRows();
                Check.write(x, whole.substring(0, many));
                int players = (many - 1) / (size + 2);
                boolean is = many > 2 && (many - 1) % (size + 2) == 0 && players >= 2;
                Check.due("table of " + whole.substring(0, many), x.table(), is ? players : TossRows.STATE);
                Check.due("letters then", x.count(7), is ? 0 : many);
                Check.due("tables read", x.count(8), is ? 1 : 0);
            }
        }
        TossRows x = Check.withTable("2;phh,mht");
        Check.due("the page that was read is no table again", x.table(), TossRows.STATE);
        Check.due("one was read", x.count(8), 1);
        Check.write(x, "2;phh,mhtt");
        Check.due("one letter more", x.table(), TossRows.STATE);
    }

    private static void pageIsEmptyThen() {
        Check.sentence("5: THE PAGE is empty then.");
        TossRows x = Check.withTable("4;phhhh,mtttt,ohtht,bthth");
        Check.due("letters", x.count(7), 0);
        Check.due("fault", x.fault(), 0);
        Check.due("blank", x.blank(), 0);
        Check.due("a letter", x.letter('9'), 1);
    }

    private static void anotherOneIsGone() {
        Check.sentence("5: (another one is gone, with all that was)");
        String text = "2;phh,mht,oth,btt";
        TossRows fresh = Check.withTable(text);
        TossRows x = Check.withTable("4;bhhhh,etttt,ohtht,mthth");
        for (int i = 0; i < 6; i++) {
            x.see(i % 4, i, i % 2 == 0);
        }
        Check.due("a game is over, and the next goes on", Check.tossAll(x, "tttttt"), 0);
        Check.due("two have won", x.count(5), 2);
        x.image();
        Check.write(x, text);
        Check.due("another table", x.table(), 4);
        Check.due("two were read", x.count(8), 2);
        Check.due("restore", x.restore(), TossRows.STATE);
        for (int what = 0; what <= 7; what++) {
            Check.due("count " + what, x.count(what), fresh.count(what));
        }
        for (int p = 0; p < 4; p++) {
            for (int what = 0; what <= 6; what++) {
                Check.due("player " + p + " " + what, x.player(p, what), fresh.player(p, what));
            }
        }
        Check.due("one toss is no row", x.toss(1), 0);
        Check.due("six are seen anew", seeMost(x), 6);
        // fewer players than there were
        Check.write(x, "3;phhh,pttt");
        Check.due("two players", x.table(), 2);
        Check.due("no third one", x.player(2, 1), TossRows.UNKNOWN);
        Check.due("nor a fourth one", x.duel(0, 3), TossRows.UNKNOWN);
        Check.due("nor one who hits", Check.tossAll(x, "hth"), 0);
    }

    private static int seeMost(TossRows x) {
        int seen = 0;
        for (int i = 0; i < 6; i++) {
            seen = x.see(0, 0, true);
        }
        return seen;
    }
}
