import java.math.BigInteger;
import java.util.ArrayList;
import java.util.List;

/** Promises 21 to 24: none and one, the latest, what is kept and what is not, sums that wrap. */
public final class ToldEdgeTest {
    private static final int[] FAR = {Integer.MIN_VALUE, Integer.MAX_VALUE};

    public static void main(String[] args) {
        imageOfNone();
        theLatestImage();
        imageStays();
        imageKeepsKindsAndRows();
        imageKeepsTheGame();
        imageKeepsWhatIsWon();
        imageKeepsWhatIsSeen();
        imageLeavesTheRest();
        anotherTableSince();
        countsOfNone();
        countsOfAll();
        countsThatGrow();
        digestsThatWrap();
        Check.end();
    }

    private static void imageOfNone() {
        Check.sentence("21: how many TOSSES there were in all. STATE: no TABLE.");
        TossRows x = new TossRows();
        Check.due("without a table", x.image(), TossRows.STATE);
        Check.write(x, "2;phh,ptt");
        Check.due("with a page alone", x.image(), TossRows.STATE);
        x.table();
        Check.sentence("22: STATE: none was kept");
        Check.due("restore of none", x.restore(), TossRows.STATE);
        Check.due("restore without a table", new TossRows().restore(), TossRows.STATE);
        Check.sentence("21: how many TOSSES there were in all.");
        Check.due("image of no tosses", x.image(), 0);
        Check.due("restore of no tosses", x.restore(), 0);
        Check.tossAll(x, "hhh");
        Check.due("those of other games, too", x.image(), 3);
        Check.due("restore of three", x.restore(), 3);
    }

    private static void theLatestImage() {
        Check.sentence("21: An IMAGE is kept (one; the latest)");
        TossRows x = Check.withTable("2;phh,ptt");
        for (int i = 0; i < 4; i++) {
            Check.due("image " + i, x.image(), i);
            x.toss(i % 2);
        }
        Check.due("the last one", x.restore(), 3);
        Check.due("not the one before", x.restore(), 3);
    }

    private static void imageStays() {
        Check.sentence("22: It goes on from the IMAGE");
        TossRows x = Check.withTable("3;phht,bthh");
        Check.tossAll(x, "hh");
        x.see(0, 1, true);
        x.image();
        long before = x.digest();
        for (int i = 0; i < 3; i++) {
            Check.due("hht", x.toss(1), 3);
            x.bet(0, 7 - i);
            x.be(1, i);
            x.forget();
            x.see(1, i, false);
            Check.due("restore " + i, x.restore(), 2);
            Check.due("as it was " + i, x.digest(), before);
        }
    }

    private static void imageKeepsKindsAndRows() {
        Check.sentence("An IMAGE keeps KINDS, ROWS");
        TossRows x = Check.withTable("4;phhhh,mhhht,ohhth,ehhtt");
        x.image();
        for (int p = 0; p < 4; p++) {
            x.be(p, Check.BOTH);
            x.bet(p, 15 - p);
        }
        x.restore();
        for (int p = 0; p < 4; p++) {
            Check.due("kind of " + p, x.player(p, 0), p);
            Check.due("row of " + p, x.player(p, 1), p);
        }
    }

    private static void imageKeepsTheGame() {
        Check.sentence("An IMAGE keeps .. this GAME .. how many TOSSES there were");
        // of fewer tosses than rows are long, of as many, and of more
        for (int many = 0; many <= 6; many++) {
            TossRows x = Check.withTable("4;phhhh,phhht");
            String sides = "tthttt".substring(0, many);
            Check.tossAll(x, "hhhh");
            Check.tossAll(x, sides);
            Check.due("image behind " + many, x.image(), 4 + many);
            x.anew();
            Check.tossAll(x, "hthhtht");
            Check.due("restore behind " + many, x.restore(), 4 + many);
            Check.due("tosses in this game", x.count(2), many);
            Check.due("tosses in all", x.count(3), 4 + many);
            Check.due("tail", x.count(4), many < 4 ? TossRows.NONE : Check.row(sides.substring(many - 4)));
            TossRows like = Check.withTable("4;phhhh,phhht");
            Check.tossAll(like, "hhhh" + sides);
            for (int i = 1; i <= 4; i++) {
                Check.due("heads behind " + many + ", " + i, x.toss(0), like.toss(0));
            }
        }
    }

    private static void imageKeepsWhatIsWon() {
        Check.sentence("An IMAGE keeps .. what each has WON");
        TossRows x = Check.withTable("2;phh,pht,pth,ptt");
        Check.tossAll(x, "hhhhhhhthtth");
        x.image();
        Check.tossAll(x, "hhhtthtttt");
        x.restore();
        int[] won = {3, 2, 1, 0};
        for (int p = 0; p < 4; p++) {
            Check.due("won by " + p, x.player(p, 2), won[p]);
        }
        Check.due("won by all", x.count(5), 6);
    }

    private static void imageKeepsWhatIsSeen() {
        Check.sentence("An IMAGE keeps .. SEEN");
        TossRows x = Check.withTable("3;phhh,phhh,phhh,phhh");
        for (int i = 0; i < 6; i++) {
            x.see(i % 4, i, i >= 4);
        }
        x.image();
        int[] rows = {1 << 4, 1 << 5, 255 - (1 << 2), 255 - (1 << 3)};
        Check.due("six were", x.forget(), 6);
        for (int i = 0; i < 6; i++) {
            x.see(3 - i % 4, 7 - i, i < 4);
        }
        Check.due("restore", x.restore(), 0);
        Check.due("six are", x.count(6), 6);
        for (int p = 0; p < 4; p++) {
            Check.due("rows of " + p, x.player(p, 5), rows[p]);
        }
        Check.due("full as it was", x.see(0, 0, true), TossRows.FULL);
        x.forget();
        x.image();
        x.see(0, 0, true);
        x.restore();
        Check.due("nothing was seen", x.count(6), 0);
        Check.due("all rows", x.player(0, 5), 255);
    }

    private static void imageLeavesTheRest() {
        Check.sentence("An IMAGE keeps KINDS, ROWS, this GAME, what each has WON, how many TOSSES there were, SEEN.");
        TossRows x = Check.withTable("2;phh,ptt");
        Check.write(x, "3;phh");
        x.image();
        Check.write(x, "h,");
        x.restore();
        Check.due("the page is not kept", x.count(7), 7);
        Check.due("nor is it gone", x.fault(), 7);
        Check.write(x, "pttt");
        Check.due("it is read", x.table(), 2);
        Check.due("tables that were read", x.count(8), 2);
        x.image();
        x.restore();
        Check.due("as many behind an image", x.count(8), 2);
    }

    private static void anotherTableSince() {
        Check.sentence("22: or there is another TABLE since");
        TossRows x = Check.withTable("2;phh,ptt");
        x.toss(0);
        x.image();
        Check.write(x, "2;phh,pt");
        Check.due("a page that is none", x.table(), TossRows.STATE);
        Check.due("the image stays", x.restore(), 1);
        Check.write(x, "t");
        Check.due("the same text", x.table(), 2);
        Check.due("another table", x.restore(), TossRows.STATE);
        Check.due("it stays so", x.restore(), TossRows.STATE);
        Check.due("nothing was tossed", x.count(3), 0);
        Check.due("an image of this one", x.image(), 0);
        Check.due("restore of this one", x.restore(), 0);
    }

    private static void counts(String name, TossRows x, int... want) {
        for (int what = 0; what < want.length; what++) {
            Check.due("count " + what + " of " + name, x.count(what), want[what]);
        }
        for (int what : new int[] {-1, 9, FAR[0], FAR[1]}) {
            Check.due("count " + what + " of " + name, x.count(what), TossRows.OUTSIDE);
        }
    }

    private static void countsOfNone() {
        Check.sentence("23: 4 the TAIL (NONE: there is none) .. OUTSIDE.");
        TossRows x = new TossRows();
        counts("a new object", x, 0, 0, 0, 0, TossRows.NONE, 0, 0, 0, 0);
        Check.write(x, "2;phh,ptt");
        counts("a page", x, 0, 0, 0, 0, TossRows.NONE, 0, 0, 9, 0);
        x.table();
        counts("a table", x, 2, 2, 0, 0, TossRows.NONE, 0, 0, 0, 1);
        x.toss(0);
        counts("one toss", x, 2, 2, 1, 1, TossRows.NONE, 0, 0, 0, 1);
        x.toss(1);
        counts("two tosses", x, 2, 2, 2, 2, 1, 0, 0, 0, 1);
        x.toss(1);
        counts("a game that is over", x, 2, 2, 0, 3, TossRows.NONE, 1, 0, 0, 1);
    }

    private static void countsOfAll() {
        Check.sentence("23: 5 what all have WON, 6 what is SEEN, 7 letters of THE PAGE");
        TossRows x = Check.withTable("4;phhhh,phhhh,etttt,bhhhh");
        Check.due("all four", Check.tossAll(x, "hhhh"), 15);
        Check.due("two of four", Check.tossAll(x, "tttt"), 12);
        Check.tossAll(x, "tttht");
        for (int i = 0; i < 6; i++) {
            x.see(3, i, false);
        }
        Check.write(x, "~".repeat(28));
        counts("all", x, 4, 4, 5, 13, Check.row("ttht"), 6, 6, 28, 1);
        x.anew();
        counts("anew", x, 4, 4, 0, 13, TossRows.NONE, 6, 6, 28, 1);
    }

    private static void countsThatGrow() {
        Check.sentence("23: 8 how often a TABLE was read");
        TossRows x = new TossRows();
        for (int i = 1; i <= 9; i++) {
            Check.due("none of an empty page", x.table(), TossRows.STATE);
            Check.write(x, i % 2 == 0 ? "3;phhh,pttt" : "2;phh,ptt");
            Check.due("before " + i, x.count(8), i - 1);
            Check.due("table " + i, x.table(), 2);
            Check.due("how long " + i, x.count(1), i % 2 == 0 ? 3 : 2);
            Check.due("read " + i, x.count(8), i);
        }
    }

    private static void digest(String name, TossRows x, String page) {
        List<Integer> numbers = new ArrayList<>();
        for (int p = 0; p < x.count(0); p++) {
            for (int what = 0; what <= 6; what++) {
                numbers.add(x.player(p, what));
            }
            numbers.addAll(List.of(x.answer(p, 0), x.answer(p, 1), x.odds(p, 9, 0), x.odds(p, 9, 1)));
        }
        numbers.addAll(List.of(x.duel(0, 1), x.duel(1, 0)));
        if (x.count(0) > 0) {
            numbers.add(x.ring());
        }
        page.chars().forEach(numbers::add);
        for (int what = 0; what <= 8; what++) {
            numbers.add(x.count(what));
        }
        BigInteger sum = BigInteger.valueOf(1297);
        for (int number : numbers) {
            sum = sum.multiply(BigInteger.valueOf(31)).add(BigInteger.valueOf(number));
        }
        Check.holds("the sum of " + name + " is above all longs", sum.bitLength() > 63);
        Check.due("digest of " + name, x.digest(), sum.longValue());
    }

    private static void digestsThatWrap() {
        Check.sentence("24: 31 times h, and it (as longs, wrapping)");
        TossRows x = new TossRows();
        digest("a new object", x, "");
        Check.write(x, "~".repeat(28));
        digest("a full page", x, "~".repeat(28));
        x.blank();
        Check.write(x, "2;phh,ptt");
        digest("a page that is a table", x, "2;phh,ptt");
        x.table();
        digest("two", x, "");
        TossRows four = Check.withTable("4;bhhht,bhhth,phthh,ehhhh");
        Check.tossAll(four, "ththt");
        for (int i = 0; i < 6; i++) {
            four.see(i % 2, 15 - i, i % 2 == 0);
        }
        Check.write(four, " ");
        digest("four", four, " ");
        Check.due("digest changes nothing", four.digest(), four.digest());
        Check.holds("letters count by their order", digestOfPage("23") != digestOfPage("32"));
    }

    private static long digestOfPage(String page) {
        TossRows x = new TossRows();
        Check.write(x, page);
        return x.digest();
    }
}
