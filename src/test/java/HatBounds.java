/** The bounds of a hat and of an empty square, as parts 3 and 4 of the terms tell them; and of promises 20 to 23. */
final class HatBounds {
    private static final int LEAST = Integer.MIN_VALUE, MOST = Integer.MAX_VALUE;

    private final Book book;

    private HatBounds(Book book) {
        this.book = book;
    }

    static void all(Book book) {
        HatBounds bounds = new HatBounds(book);
        bounds.noneAtFirst();
        bounds.with();
        bounds.without();
        bounds.apart();
        bounds.betweenSeconds();
        bounds.nearOfNone();
        bounds.fromOneCell();
        bounds.fewest();
        bounds.leastOrNone();
        bounds.never();
        bounds.has();
        bounds.hat();
        bounds.near();
        bounds.empty();
    }

    private static Run hat(Run run, int with, int without) {
        return run.due(with, "hat", 0).due(without, "hat", 1);
    }

    private static String picture(int second) {
        return "picture 0 0 0 1 " + second + ";";
    }

    private void noneAtFirst() {
        book.terms("A HAT at a cell: of PICTURES it is told that one HAS it, or has NOT (none at first).");
        Run run = book.run().tell(picture(3).repeat(10));
        hat(run, -9, -9).refused(-2, "near", 0, 0, 0);
        for (int i = 0; i < 10; i++) {
            run.due(2, "has", i, 2);
        }
        hat(run, -9, -9);
    }

    private void with() {
        book.terms("WITH: the greatest SECOND of those that HAVE it;");
        Run run = book.run().tell(picture(0) + picture(99) + picture(50) + picture(50));
        hat(run.call("has", 0, 1), 0, -9);
        hat(run.call("has", 2, 1), 50, -9);
        hat(run.call("has", 1, 1), 99, -9);
        hat(run.call("has", 1, 2), 50, -9);
        hat(run.call("has", 3, 1), 50, -9);
        hat(run.call("has", 2, 2), 50, -9);
        hat(run.call("has", 3, 0), 0, 50);
        hat(run.call("has", 0, 2), -9, 50);
        Run last = book.run().tell(picture(7).repeat(9) + picture(8));
        hat(last.call("has", 9, 1).call("has", 0, 1), 8, -9);
    }

    private void without() {
        book.terms("WITHOUT: the least SECOND above that (or of all, if none HAS it) of those that have it NOT; NONE.");
        Run run = book.run().tell(picture(50) + picture(49) + picture(50) + picture(51) + picture(52) + picture(0) + picture(99));
        hat(run.call("has", 6, 0), -9, 99);
        hat(run.call("has", 4, 0), -9, 52);
        hat(run.call("has", 5, 0), -9, 0);
        // at 50 it is there: 49, 50 and 0 are not above that, 51 is
        hat(run.call("has", 0, 1), 50, 52);
        hat(run.call("has", 1, 0), 50, 52);
        hat(run.call("has", 2, 0), 50, 52);
        hat(run.call("has", 3, 0), 50, 51);
        hat(run.call("has", 3, 1), 51, 52);
        hat(run.call("has", 6, 1), 99, -9);
        hat(run.call("has", 6, 2), 51, 52);
        // one that is told to have it has it not any more
        hat(book.run().tell(picture(5)).call("has", 0, 1).call("has", 0, 0), -9, 5);
        hat(book.run().tell(picture(0) + picture(1)).call("has", 0, 1).call("has", 1, 0), 0, 1);
        hat(book.run().tell(picture(0) + picture(0)).call("has", 0, 1).call("has", 1, 0), 0, -9);
        hat(book.run().tell(picture(0) + picture(99)).call("has", 0, 1).call("has", 1, 0), 0, 99);
        hat(book.run().tell(picture(99) + picture(98)).call("has", 0, 1).call("has", 1, 0), 99, -9);
    }

    private Run told(String square, String people) {
        return book.run().tell(square + people + picture(10) + picture(13)).call("has", 0, 1).call("has", 1, 0);
    }

    /** One stands at each of eight cells around 5 5, as far as r, or one farther to one side. */
    private void apart() {
        book.terms("NEAR r: who was at a cell at most r apart (x, y, each) from it");
        for (int r = 0; r <= 5; r++) {
            int near = 5 - r;
            int far = 5 + r;
            StringBuilder people = new StringBuilder();
            int[][] cells = {{near, 5}, {far, 5}, {5, near}, {5, far}, {near, near}, {far, near}, {near, far}, {far, far}};
            for (int[] cell : cells) {
                people.append("person ").append(cell[0]).append(' ').append(cell[1]).append(" 4 0 99 0;");
            }
            Run run = told("square 12 12;", people.toString()).due(255, "near", 5, 5, r);
            if (r > 0) {
                run.due(0, "near", 5, 5, r - 1).due(255 - 1 - 16 - 64, "near", 6, 5, r).due(255 - 4 - 16 - 32, "near", 5, 6, r)
                        .due(255 - 2 - 32 - 128, "near", 4, 5, r).due(255 - 8 - 64 - 128, "near", 5, 4, r);
            }
            run.due(255, "near", 5, 5, 11);
        }
        // corners of the greatest and of the least square
        told("square 12 12;", "person 0 0 4 0 99 0;person 11 11 4 0 99 0;").due(3, "near", 0, 0, 11).due(1, "near", 0, 0, 10)
                .due(3, "near", 11, 11, 11).due(2, "near", 11, 11, 10).due(3, "near", 0, 11, 11).due(0, "near", 0, 11, 10)
                .due(1, "near", 0, 0, 0).due(2, "near", 11, 11, 0);
        told("square 3 3;", "person 0 0 4 0 99 0;person 2 2 4 0 99 0;").due(3, "near", 0, 0, 2).due(1, "near", 0, 0, 1)
                .due(3, "near", 1, 1, 1).due(0, "near", 1, 1, 0).due(3, "near", 2, 2, 11);
        // the end of a row is not near the beginning of the next
        told("square 4 4;", "person 3 1 4 0 99 0;").due(0, "near", 0, 2, 1).due(0, "near", 0, 1, 1);
    }

    private void betweenSeconds() {
        book.terms("at a SECOND from WITH to WITHOUT");
        // WITH is 10, WITHOUT is 13: one each at 9, 10, 11, 12, 13, 14, one until 9, one from 14
        StringBuilder people = new StringBuilder();
        for (int t = 9; t <= 14; t++) {
            people.append("person 4 4 4 ").append(t).append(" 0 0;");
        }
        people.append("person 4 4 4 0 9 0;person 4 4 4 14 99 0;");
        told("", people.toString()).due(2 + 4 + 8 + 16, "near", 4, 4, 0).due(2 + 4 + 8 + 16, "near", 5, 5, 1);
        // one who goes by: it is at 4 at second 4, at 6 at second 6
        Run run = book.run().tell("person 0 4 0 0 99 0;" + picture(4) + picture(5) + picture(6)).call("has", 0, 1).call("has", 1, 0);
        run.due(0, "near", 3, 4, 0).due(1, "near", 4, 4, 0).due(1, "near", 5, 4, 0).due(0, "near", 6, 4, 0);
        run.call("has", 1, 2).call("has", 2, 0).due(1, "near", 6, 4, 0).due(0, "near", 7, 4, 0);
        // from the first second to the last
        Run all = book.run().tell("person 0 0 4 0 0 0;person 0 0 4 99 0 0;person 0 0 4 50 0 0;" + picture(0) + picture(99));
        all.call("has", 0, 1).call("has", 1, 0).due(7, "near", 0, 0, 0);
        // nobody is near on a wall
        told("wall 4 4;", "person 4 4 4 0 99 0;").due(0, "near", 4, 4, 11);
    }

    private void nearOfNone() {
        book.terms("(STATE: one is NONE).");
        Run run = book.run().tell("person 0 0 4 0 99 0;" + picture(5) + picture(6));
        run.refused(-2, "near", 0, 0, 0).refused(-2, "near", 7, 7, 11);
        run.call("has", 0, 1).refused(-2, "near", 0, 0, 0);
        run.call("has", 1, 0).due(1, "near", 0, 0, 0);
        run.call("has", 0, 2).refused(-2, "near", 0, 0, 0);
        run.call("has", 0, 0).refused(-2, "near", 0, 0, 0);
        // WITH is the later one: WITHOUT is NONE
        run.call("has", 1, 1).refused(-2, "near", 0, 0, 0);
    }

    private void fromOneCell() {
        book.terms("4 EMPTY by PICTURE i: of all PICTURES from its cell, by its WAY, with its REACH (it, too):");
        // one stands before the first until 3; each other picture is unlike it by one number
        Run run = book.run().tell("person 2 4 4 0 3 0;picture 2 2 1 2 0;picture 3 2 1 2 4;picture 2 3 1 2 4;picture 2 2 0 2 4;"
                + "picture 2 2 1 3 4;picture 2 2 1 1 4;picture 2 2 1 2 3;");
        run.due(-9, "empty", 0, 0).due(1, "empty", 0, 1).due(-9, "empty", 6, 0).due(1, "empty", 6, 1);
        for (int i = 1; i <= 5; i++) {
            run.due(1 << i, "empty", i, 0).due(0, "empty", i, 1);
        }
        // and one at another second is like it
        book.run().tell("person 2 4 4 0 3 0;picture 2 2 1 2 0;picture 2 2 1 2 4;").due(2, "empty", 0, 0).due(2, "empty", 1, 0);
        // it alone, of ten
        book.run().tell("picture 0 0 0 1 0;".repeat(9) + "picture 0 0 0 2 0;").due(512, "empty", 9, 0).due(1, "empty", 8, 0)
                .due(1, "empty", 0, 0);
    }

    /** Five cells, each empty at a second of its own: each of the five pictures is needed. */
    private static final String FIVE = "square 12 12;person 4 4 4 1 3 0;person 4 8 4 0 3 0;person 4 5 4 0 0 0;person 4 5 4 2 2 0;"
            + "person 4 6 4 0 1 0;person 4 6 4 3 1 0;person 4 7 4 0 2 0;person 4 7 4 4 0 0;";

    private void fewest() {
        book.terms("the fewest such that each cell of the VIEW on THE SQUARE that is no WALL is in one of these not HIDDEN and without "
                + "people:");
        StringBuilder text = new StringBuilder(FIVE);
        StringBuilder more = new StringBuilder(FIVE);
        for (int t = 0; t < 5; t++) {
            text.append("picture 0 6 0 3 ").append(t).append(";picture 0 6 0 4 ").append(t).append(';');
            more.append("picture 0 6 0 4 ").append(t).append(';');
        }
        Run five = book.run().tell(text.toString());
        for (int i = 1; i < 10; i += 2) {
            five.due(2 + 8 + 32 + 128 + 512, "empty", i, 0).due(0, "empty", i, 1).due(1, "empty", i - 1, 0);
        }
        // a sixth, when all are gone, does it alone, though its bits are more than others'
        book.run().tell(more + "picture 0 6 0 4 5;").due(32, "empty", 0, 0).due(0, "empty", 0, 1);
        // without the last one cell is never empty
        book.run().tell(more.substring(0, more.length() - 18)).due(-9, "empty", 0, 0).due(1, "empty", 0, 1);
        // what is hidden is not empty: one ahead of all, and at the next second one behind it
        book.run().tell("square 3 3;person 1 1 4 0 0 0;person 1 0 4 1 0 0;picture 1 2 3 2 0;picture 1 2 3 2 1;").due(-9, "empty", 0, 0)
                .due(1, "empty", 0, 1);
        book.run().tell("square 3 3;person 1 1 4 0 0 0;person 1 0 4 1 0 0;picture 1 2 3 2 0;picture 1 2 3 2 1;picture 1 2 3 2 2;")
                .due(4, "empty", 0, 0);
    }

    private void leastOrNone() {
        book.terms("bits; of several the least; NONE.");
        book.run().tell("picture 0 0 0 1 0;".repeat(10)).due(1, "empty", 9, 0);
        // one picture is not enough; of those two that do, the least bits
        Run run = book.run().tell("square 3 9;person 0 0 4 0 1 0;person 2 0 4 2 0 0;picture 1 2 3 2 1;picture 1 2 3 2 2;"
                + "picture 1 2 3 2 0;picture 1 2 3 2 2;");
        run.due(3, "empty", 0, 0).due(3, "empty", 3, 0).due(0, "empty", 0, 1);
        Run later = book.run().tell("square 3 9;person 0 0 4 0 1 0;person 2 0 4 2 0 0;picture 1 2 3 2 1;picture 1 2 3 2 0;"
                + "picture 1 2 3 2 2;picture 1 2 3 2 2;");
        later.due(5, "empty", 0, 0).due(5, "empty", 3, 0);
        // no cell to show at all: none is needed
        Run none = book.run().tell("square 3 3;wall 1 0;picture 0 0 2 9 0;picture 0 0 3 1 0;picture 2 2 0 1 0;picture 2 2 1 9 0;"
                + "picture 0 0 0 1 0;");
        for (int i = 0; i < 5; i++) {
            none.due(0, "empty", i, 0).due(0, "empty", i, 1);
        }
    }

    private void never() {
        book.terms("NEVER: how many cells are so in none of them.");
        // one right ahead hides the whole view, of 1, 3, 3, 5, 5, 7, 7, 9, 9 cells
        int[] cells = {1, 4, 7, 12, 17, 24, 31, 40, 49};
        for (int reach = 1; reach <= 9; reach++) {
            String picture = "picture 0 6 0 " + reach + " ";
            book.run().tell("square 12 12;person 1 6 4 0 0 0;" + picture + "0;").due(cells[reach - 1], "empty", 0, 1)
                    .due(-9, "empty", 0, 0);
            book.run().tell("square 12 12;wall 1 6;" + picture + "0;").due(cells[reach - 1] - 1, "empty", 0, 1)
                    .due(reach == 1 ? 0 : -9, "empty", 0, 0);
            book.run().tell("square 12 12;person 1 6 4 0 0 0;" + picture + "0;" + picture + "1;").due(0, "empty", 0, 1)
                    .due(2, "empty", 0, 0);
            book.run().tell("square 12 12;" + picture + "0;").due(0, "empty", 0, 1).due(1, "empty", 0, 0);
        }
        // cells beyond the square do not count: from a corner half of the view is left
        book.run().tell("square 12 12;person 1 0 4 0 0 0;picture 0 0 0 9 0;").due(29, "empty", 0, 1);
        book.run().tell("square 3 3;person 1 0 4 0 0 0;picture 0 0 0 9 0;").due(3, "empty", 0, 1);
    }

    private void has() {
        book.promise(20, "Of a PICTURE it is told that it HAS the HAT (is = 1), has it NOT (0), or nothing (2): what was told. BAD.");
        Run run = book.run().tell(picture(5).repeat(10));
        int[] tells = {0, 1, 2, 1, 0, 2, 2, 0, 0, 1, 1, 2};
        for (int i = 0; i < 10; i += 9) {
            int before = 2;
            for (int is : tells) {
                run.due(before, "has", i, is);
                before = is;
            }
        }
        long[][] bad = {{-1, 0}, {10, 0}, {0, -1}, {0, 3}, {9, 3}, {LEAST, 0}, {MOST, 0}, {0, LEAST}, {0, MOST}, {10, 3}};
        run.call("has", 0, 1).call("has", 9, 0);
        for (long[] numbers : bad) {
            run.refused(-1, "has", numbers);
        }
        book.fullRun().refused(-1, "has", 3, 1).refused(-1, "has", -1, 1).refused(-1, "has", 1, 3).refused(-1, "has", 1, -1);
        book.run().refused(-1, "has", 0, 1);
    }

    private void hat() {
        book.promise(21, "WITH (what = 0), WITHOUT (1); NONE. BAD.");
        hat(book.fullRun(), 1, 2).refused(-1, "hat", -1).refused(-1, "hat", 2).refused(-1, "hat", LEAST).refused(-1, "hat", MOST);
        hat(book.run(), -9, -9).refused(-1, "hat", -1).refused(-1, "hat", 2);
    }

    private void near() {
        book.promise(22, "NEAR (r 0 .. 11) a cell, as bits. BAD; STATE.");
        Run run = book.fullRun().due(3, "near", 0, 0, 11).due(0, "near", 4, 3, 0).due(2, "near", 0, 0, 0).due(2, "near", 1, 0, 0)
                .due(0, "near", 2, 0, 0);
        long[][] bad = {{-1, 0, 0}, {5, 0, 0}, {0, -1, 0}, {0, 4, 0}, {0, 0, -1}, {0, 0, 12}, {LEAST, 0, 0}, {MOST, 0, 0},
            {0, LEAST, 0}, {0, MOST, 0}, {0, 0, LEAST}, {0, 0, MOST}};
        for (long[] numbers : bad) {
            run.refused(-1, "near", numbers);
        }
        // BAD goes ahead of STATE
        run.call("has", 2, 2).refused(-2, "near", 0, 0, 0).refused(-2, "near", 4, 3, 11);
        for (long[] numbers : bad) {
            run.refused(-1, "near", numbers);
        }
    }

    private void empty() {
        book.promise(23, "EMPTY: bits (what = 0); NONE; NEVER (1). BAD.");
        Run run = book.run().tell("person 1 0 4 0 0 0;" + "picture 0 0 0 1 1;".repeat(9) + "picture 7 7 2 1 0;");
        run.due(1, "empty", 0, 0).due(0, "empty", 0, 1).due(512, "empty", 9, 0).due(0, "empty", 9, 1);
        long[][] bad = {{-1, 0}, {10, 0}, {0, -1}, {0, 2}, {9, 2}, {LEAST, 0}, {MOST, 0}, {0, LEAST}, {0, MOST}, {10, 2}};
        for (long[] numbers : bad) {
            run.refused(-1, "empty", numbers);
        }
        book.run().refused(-1, "empty", 0, 0).refused(-1, "empty", 0, 1);
        book.run().tell("person 1 0 4 0 0 0;picture 0 0 0 1 0;").due(-9, "empty", 0, 0).due(1, "empty", 0, 1);
    }
}
