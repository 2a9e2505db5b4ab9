/** The sections "What it is" and "Terms": the last that is let in and the first that is not, what is empty and full. */
public final class TermsEdgeTest {
    private static final String KINDS = "pmoeb";

    public static void main(String[] args) {
        howLong();
        howManyPlayers();
        numberedFromZero();
        everyLetterAtEveryPlace();
        rowsAsNumbers();
        atFirst();
        tailIfThereAreSoMany();
        hitByTheTail();
        gameIsOver();
        nothingTossedInTheNextGame();
        callsOfOneObject();
        Check.end();
    }

    private static TossRows page(String text) {
        TossRows x = new TossRows();
        Check.write(x, text);
        return x;
    }

    private static void howLong() {
        Check.sentence("a digit, how LONG rows are (2 to 4)");
        for (int figure = 0; figure <= 9; figure++) {
            String text = figure + ";p" + "h".repeat(figure) + ",p" + "t".repeat(figure);
            boolean is = figure >= 2 && figure <= 4;
            TossRows x = page(text);
            Check.due("fault of " + text, x.fault(), is ? text.length() : 0);
            Check.due("table of " + text, x.table(), is ? 2 : TossRows.STATE);
            Check.due("how long, of " + text, x.count(1), is ? figure : 0);
        }
    }

    private static String tableOf(int size, int players) {
        StringBuilder text = new StringBuilder().append(size).append(';');
        for (int p = 0; p < players; p++) {
            text.append(p == 0 ? "" : ",").append(KINDS.charAt(p)).append("ht".repeat(2), 0, size);
        }
        return text.toString();
    }

    private static void howManyPlayers() {
        Check.sentence("two to four PLAYERS (numbered from 0) with \",\" between");
        for (int size = 2; size <= 4; size++) {
            for (int players = 0; players <= 4; players++) {
                String text = tableOf(size, players);
                TossRows x = page(text);
                Check.due("fault of " + text, x.fault(), text.length());
                Check.due("table of " + text, x.table(), players >= 2 ? players : TossRows.STATE);
                Check.due("players of " + text, x.count(0), players >= 2 ? players : 0);
            }
            // the ',' ahead of a fifth one is the first letter that no table has there
            String four = tableOf(size, 4);
            String five = tableOf(size, 5);
            TossRows x = page(five.substring(0, Math.min(five.length(), 28)));
            Check.due("fault of " + five, x.fault(), four.length());
            Check.due("table of " + five, x.table(), TossRows.STATE);
        }
    }

    private static void numberedFromZero() {
        Check.sentence("two to four PLAYERS (numbered from 0)");
        for (int players = 2; players <= 4; players++) {
            TossRows x = Check.withTable(tableOf(3, players));
            Check.due("-1 of " + players, x.player(-1, 0), TossRows.UNKNOWN);
            Check.due("the first of " + players, x.player(0, 0), 0);
            Check.due("the last of " + players, x.player(players - 1, 0), players - 1);
            Check.due("one more than " + players, x.player(players, 0), TossRows.UNKNOWN);
        }
    }

    /** The letters that tables have at a place. */
    private static String allowed(int size, int place) {
        int within = (place - 2) % (size + 2);
        if (place < 2) {
            return place == 0 ? "234" : ";";
        }
        if (within == size + 1) {
            return place < 2 + 4 * (size + 2) - 1 ? "," : "";
        }
        return within == 0 ? KINDS : "ht";
    }

    private static void everyLetterAtEveryPlace() {
        Check.sentence("each a letter, the KIND, and as many letters as rows are LONG, his ROW, \"h\" (heads) or \"t\"");
        for (int size = 2; size <= 4; size++) {
            String text = tableOf(size, 4) + " ";
            for (int place = 0; place < text.length(); place++) {
                for (int code = 32; code <= 126; code++) {
                    TossRows x = page(text.substring(0, place) + (char) code);
                    boolean is = allowed(size, place).indexOf(code) >= 0;
                    Check.due("letter " + code + " at " + place + " of " + text, x.fault(), is ? place + 1 : place);
                }
            }
        }
    }

    private static void rowsAsNumbers() {
        Check.sentence("its letters are figures of two, h 0, t 1, the first letter the highest figure");
        for (int size = 2; size <= 4; size++) {
            String h = "h".repeat(size - 1);
            String t = "t".repeat(size - 1);
            TossRows x = Check.withTable(size + ";ph" + h + ",pt" + t + ",pt" + h + ",p" + h + "t");
            Check.due("the least of " + size, x.player(0, 1), 0);
            Check.due("the most of " + size, x.player(1, 1), (1 << size) - 1);
            Check.due("the highest figure of " + size, x.player(2, 1), 1 << (size - 1));
            Check.due("the lowest figure of " + size, x.player(3, 1), 1);
        }
    }

    private static void atFirst() {
        Check.sentence("At first there is none; then nothing was TOSSED, nobody has won.");
        Check.due("no table: no players", new TossRows().count(0), 0);
        Check.due("no table: nothing can be tossed", new TossRows().toss(0), TossRows.STATE);
        TossRows x = Check.withTable(tableOf(2, 4));
        Check.due("tosses in this game", x.count(2), 0);
        Check.due("tosses in all", x.count(3), 0);
        Check.due("no tail", x.count(4), TossRows.NONE);
        Check.due("won by all", x.count(5), 0);
        for (int p = 0; p < 4; p++) {
            Check.due("won by " + p, x.player(p, 2), 0);
        }
    }

    private static void tailIfThereAreSoMany() {
        Check.sentence("The TAIL is the latest tosses of this GAME, as many as rows are LONG, if there are so many.");
        String sides = "ttttht";
        for (int size = 2; size <= 4; size++) {
            TossRows x = Check.withTable(size + ";p" + "h".repeat(size) + ",p" + "h".repeat(size));
            for (int many = 1; many <= sides.length(); many++) {
                x.toss(sides.charAt(many - 1) == 't' ? 1 : 0);
                int want = many < size ? TossRows.NONE : Check.row(sides.substring(many - size, many));
                Check.due("tail of " + size + " behind " + many, x.count(4), want);
            }
        }
    }

    private static void hitByTheTail() {
        Check.sentence("A plain PLAYER HITS, if the TAIL is his ROW");
        for (int size = 2; size <= 4; size++) {
            // heads are figures of 0, so fewer heads than rows are long would be the number 0, too
            TossRows x = Check.withTable(size + ";p" + "h".repeat(size) + ",mh" + "t".repeat(size - 1));
            for (int many = 1; many < size; many++) {
                Check.due(many + " heads of " + size, x.toss(0), 0);
            }
            Check.due(size + " heads", x.toss(0), 1);
        }
        Check.sentence("a BOTH, if that is so, or if it is his ROW read from its end");
        TossRows x = Check.withTable("4;bhhht,ehhht,ohhht,mhhht");
        Check.due("his row", Check.tossAll(x, "hhht"), 1 | 2);
        Check.due("each letter the other one", Check.tossAll(x, "ttth"), 1 | 2 | 4);
        Check.due("from its end", Check.tossAll(x, "thhh"), 1 | 8);
        Check.due("from its end, each letter the other one", Check.tossAll(x, "httt"), 0);
    }

    private static void gameIsOver() {
        Check.sentence("By a TOSS that some HIT by, the GAME is over: each of these has WON once more");
        TossRows x = Check.withTable("2;phh,ehh,bhh,ott");
        Check.due("all four", Check.tossAll(x, "hh"), 15);
        for (int p = 0; p < 4; p++) {
            Check.due("won by " + p, x.player(p, 2), 1);
        }
        Check.due("two of four", Check.tossAll(x, "tt"), 6);
        Check.due("won by the first", x.player(0, 2), 1);
        Check.due("won by the second", x.player(1, 2), 2);
        Check.due("won by the third", x.player(2, 2), 2);
        Check.due("won by the last", x.player(3, 2), 1);
        Check.due("nobody, for this game goes on", Check.tossAll(x, "ht"), 0);
        Check.due("won by all as it was", x.count(5), 6);
    }

    private static void nothingTossedInTheNextGame() {
        Check.sentence("the next GAME begins (nothing was TOSSED in it)");
        TossRows x = Check.withTable("4;phhhh,phhht");
        Check.due("four heads", Check.tossAll(x, "hhhh"), 1);
        Check.due("tosses in it", x.count(2), 0);
        Check.due("its tail", x.count(4), TossRows.NONE);
        Check.due("tails behind the heads of the game before", x.toss(1), 0);
        Check.due("three heads are too few", Check.tossAll(x, "hhh"), 0);
        Check.due("a fourth one", x.toss(0), 1);
        Check.due("tosses in all", x.count(3), 9);
    }

    private static void callsOfOneObject() {
        Check.sentence("An object is used for at most 512 calls after it has been made");
        TossRows x = new TossRows();
        Model model = new Model();
        String text = tableOf(4, 4);
        for (char letter : text.toCharArray()) {
            Check.due("letter", x.letter(letter), model.letter(letter));
        }
        Check.due("table", x.table(), model.table());
        for (int call = text.length() + 2; call < 512; call++) {
            int side = call * call / 5 % 2;
            Check.due("toss, call " + call, x.toss(side), model.toss(side));
        }
        Check.due("digest, call 512", x.digest(), model.digest());
    }
}
