import java.util.Random;

/**
 * All promises: TossRows and the Model are called alike, and answer alike: first for every pair of kinds and rows, then
 * in runs of calls by chance, with right and wrong numbers.
 */
public final class ModelTest {
    private static final int RUNS = 400, CALLS = 500;

    private final Random random;
    private final TossRows rows = new TossRows();
    private final Model model = new Model();
    private final String name;
    private int size = 2;

    private ModelTest(int seed) {
        random = new Random(seed);
        name = "run " + seed + " ";
    }

    public static void main(String[] args) {
        for (int size = 2; size <= 4; size++) {
            new AllPairs(size).compare();
        }
        for (int seed = 0; seed < RUNS; seed++) {
            new ModelTest(seed).run();
        }
        Check.end();
    }

    /** Every KIND and ROW against every other one. */
    private static final class AllPairs {
        private final int size;
        private final Model model = new Model();
        private TossRows rows;
        private int calls = 0;

        AllPairs(int size) {
            this.size = size;
            String text = size + ";p" + "h".repeat(size) + ",p" + "h".repeat(size);
            text.chars().forEach(model::letter);
            model.table();
        }

        void compare() {
            for (int kind = 0; kind <= 4; kind++) {
                for (int row = 0; row < 1 << size; row++) {
                    compare(kind, row);
                }
            }
        }

        private void compare(int kind, int row) {
            for (int against = 0; against < 5 << size; against++) {
                renew();
                set(0, kind, row);
                set(1, against >> size, against & ((1 << size) - 1));
                String pair = size + ": " + kind + " " + row + " against " + against;
                Check.due("duel " + pair, rows.duel(0, 1), model.duel(0, 1));
            }
            for (int what = 0; what <= 6; what++) {
                Check.due("player " + kind + " " + row + " " + what, rows.player(0, what), model.player(0, what));
            }
            Check.due("answer " + kind + " " + row, rows.answer(0, 0), model.answer(0, 0));
            Check.due("answer's chance " + kind + " " + row, rows.answer(0, 1), model.answer(0, 1));
        }

        private void set(int player, int kind, int row) {
            rows.be(player, kind);
            rows.bet(player, row);
            model.be(player, kind);
            model.bet(player, row);
        }

        /** An object is used for at most 512 calls. */
        private void renew() {
            if (calls % 64 == 0) {
                rows = Check.withTable(size + ";p" + "h".repeat(size) + ",p" + "h".repeat(size));
            }
            calls++;
        }
    }

    private void run() {
        int withoutTable = random.nextInt(4) == 0 ? random.nextInt(60) : 0;
        int calls = 0;
        for (; calls < withoutTable; calls++) {
            call();
        }
        writeTable();
        for (calls += 30; calls < CALLS; calls++) {
            if (random.nextInt(200) == 0) {
                writeTable();
                calls += 30;
            }
            call();
        }
        Check.due(name + "digest", rows.digest(), model.digest());
    }

    private void letter(int code) {
        Check.due(name + "letter " + code, rows.letter(code), model.letter(code));
    }

    /** A table, or nearly one. */
    private void writeTable() {
        Check.due(name + "blank", rows.blank(), model.blank());
        size = 2 + random.nextInt(3);
        int players = random.nextInt(12) == 0 ? 1 + random.nextInt(5) : 2 + random.nextInt(3);
        String kinds = random.nextBoolean() ? "pmoeb" : "ppppm";
        StringBuilder text = new StringBuilder().append(size).append(';');
        for (int p = 0; p < players; p++) {
            text.append(p == 0 ? "" : ",").append(kinds.charAt(random.nextInt(5)));
            for (int i = 0; i < size; i++) {
                text.append("ht".charAt(random.nextInt(2)));
            }
        }
        if (random.nextInt(8) == 0) {
            text.setCharAt(random.nextInt(text.length()), "235;,pmoebht x".charAt(random.nextInt(14)));
        }
        text.chars().forEach(this::letter);
        Check.due(name + "fault of " + text, rows.fault(), model.fault());
        Check.due(name + "table of " + text, rows.table(), model.table());
    }

    /** A number from 0 to most, and now and then one beside these. */
    private int about(int most) {
        int pick = random.nextInt(40);
        if (pick == 0) {
            return random.nextInt();
        }
        return pick < 3 ? (random.nextBoolean() ? -1 : most + 1) : random.nextInt(most + 1);
    }

    private int somebody() {
        return about(Math.max(model.count(0) - 1, 0));
    }

    private int someRow() {
        return about((1 << size) - 1);
    }

    private void call() {
        int pick = random.nextInt(100);
        if (pick < 30) {
            callToDo(pick);
        } else if (pick < 60) {
            callOfPlayers(pick);
        } else {
            callOfAll(pick);
        }
    }

    private void callToDo(int pick) {
        int side = about(1);
        int who = somebody();
        int row = someRow();
        int kind = about(4);
        if (pick < 20) {
            Check.due(name + "toss " + side, rows.toss(side), model.toss(side));
        } else if (pick < 22) {
            Check.due(name + "anew", rows.anew(), model.anew());
        } else if (pick < 26) {
            Check.due(name + "bet " + who + " " + row, rows.bet(who, row), model.bet(who, row));
        } else {
            Check.due(name + "be " + who + " " + kind, rows.be(who, kind), model.be(who, kind));
        }
    }

    private void callOfPlayers(int pick) {
        int who = somebody();
        int other = somebody();
        int row = someRow();
        int what = about(6);
        int two = about(1);
        int tosses = random.nextInt(8) == 0 ? about(21) : about(11);
        if (pick < 38) {
            Check.due(name + "player " + who + " " + what, rows.player(who, what), model.player(who, what));
        } else if (pick < 41) {
            Check.due(name + "as " + who + " " + what, rows.as(who, what), model.as(who, what));
        } else if (pick < 44) {
            Check.due(name + "hits " + who + " " + row, rows.hits(who, row), model.hits(who, row));
        } else if (pick < 48) {
            Check.due(name + "duel " + who + " " + other, rows.duel(who, other), model.duel(who, other));
        } else if (pick < 52) {
            Check.due(name + "answer " + who + " " + two, rows.answer(who, two), model.answer(who, two));
        } else {
            Check.due(name + "odds " + who + " " + tosses + " " + two, rows.odds(who, tosses, two), model.odds(who, tosses, two));
        }
    }

    private void callOfAll(int pick) {
        int who = somebody();
        int row = someRow();
        boolean hits = random.nextBoolean();
        int times = about(99);
        int seed = random.nextInt() & (random.nextInt(20) == 0 ? -1 : Integer.MAX_VALUE);
        int what = about(8);
        if (pick < 62) {
            Check.due(name + "open " + what % 3, rows.open(what % 3), model.open(what % 3));
        } else if (pick < 68) {
            Check.due(name + "ring", rows.ring(), model.ring());
        } else if (pick < 76) {
            Check.due(name + "see " + who + " " + row + " " + hits, rows.see(who, row, hits), model.see(who, row, hits));
        } else if (pick < 78) {
            Check.due(name + "forget", rows.forget(), model.forget());
        } else if (pick < 83) {
            Check.due(name + "games " + times + " " + seed, rows.games(times, seed, what % 4), model.games(times, seed, what % 4));
        } else if (pick < 85) {
            Check.due(name + "image", rows.image(), model.image());
        } else if (pick < 88) {
            Check.due(name + "restore", rows.restore(), model.restore());
        } else if (pick < 95) {
            Check.due(name + "count " + what, rows.count(what), model.count(what));
        } else if (pick < 97) {
            letter(random.nextInt(140));
        } else {
            Check.due(name + "digest", rows.digest(), model.digest());
        }
    }
}
