/** The bounds of part 1 of the terms: the square, those on it, the text; and of promises 1 to 7 and 32. */
final class SquareBounds {
    private static final int LEAST = Integer.MIN_VALUE, MOST = Integer.MAX_VALUE;

    private final Book book;

    private SquareBounds(Book book) {
        this.book = book;
    }

    static void all(Book book) {
        SquareBounds bounds = new SquareBounds(book);
        bounds.sides();
        bounds.cells();
        bounds.walls();
        bounds.ways();
        bounds.people();
        bounds.pictures();
        bounds.newObject();
        bounds.type();
        bounds.clear();
        bounds.square();
        bounds.wall();
        bounds.person();
        bounds.picture();
        bounds.count();
    }

    private void sides() {
        book.terms("12 each; at first 8 and 8)");
        book.run().due(8, "count", 6).due(8, "count", 7).due(0, "wall", 7, 7).refused(-1, "wall", 8, 7).refused(-1, "wall", 7, 8);
        for (int wide = 0; wide <= 14; wide++) {
            for (int high = 0; high <= 14; high++) {
                side(wide, high);
            }
        }
        book.fault("square 99 5;", 7);
        book.fault("square 5 99;", 9);
    }

    private void side(int wide, int high) {
        String text = "square " + wide + " " + high + ";";
        if (wide < 3 || wide > 12) {
            book.fault(text, 7);
        } else if (high < 3 || high > 12) {
            book.fault(text, wide > 9 ? 10 : 9);
        } else {
            book.run().tell(text).due(wide, "count", 6).due(high, "count", 7).due(0, "wall", wide - 1, high - 1)
                    .due(-1, "wall", wide, high - 1).due(-1, "wall", wide - 1, high);
        }
    }

    private void cells() {
        book.terms(", cell x y (x to the right, y down, from 0; its number is WIDE times y and x).");
        int[][] sides = {{3, 3}, {3, 12}, {12, 3}, {12, 12}, {7, 5}};
        for (int[] side : sides) {
            int wide = side[0];
            int high = side[1];
            int right = wide - 1;
            int down = high - 1;
            book.run().tell("square " + wide + " " + high + ";person 0 0 4 0 0 0;person " + right + " 0 4 0 0 0;person 0 " + down
                    + " 4 0 0 0;person " + right + " " + down + " 4 0 0 0;person 1 2 4 0 0 0;")
                    .due(0, "where", 0, 0).due(wide - 1, "where", 1, 0).due(wide * high - wide, "where", 2, 0)
                    .due(wide * high - 1, "where", 3, 0).due(2 * wide + 1, "where", 4, 0)
                    .due(1, "on", 0, 0, 0).due(2, "on", right, 0, 0).due(4, "on", 0, down, 0).due(8, "on", right, down, 0)
                    .due(16, "on", 1, 2, 0).due(0, "on", 0, 1, 0);
        }
    }

    private void walls() {
        book.terms("Some are WALLS.");
        book.run().tell("square 3 3;").due(0, "count", 2).due(0, "wall", 0, 0);
        Run all = book.run().tell("square 3 3;" + everyCell(3, 3)).due(9, "count", 2);
        for (int cell = 0; cell < 9; cell++) {
            all.due(1, "wall", cell % 3, cell / 3);
        }
        Run one = book.run().tell("square 3 4;wall 2 3;").due(1, "count", 2);
        for (int cell = 0; cell < 12; cell++) {
            one.due(cell == 11 ? 1 : 0, "wall", cell % 3, cell / 3);
        }
    }

    private static String everyCell(int wide, int high) {
        StringBuilder text = new StringBuilder();
        for (int cell = 0; cell < wide * high; cell++) {
            text.append("wall ").append(cell % wide).append(' ').append(cell / wide).append(';');
        }
        return text.toString();
    }

    private void ways() {
        book.terms("WAYS: 0 right, 1 down, 2 left, 3 up, 4 none.");
        int[] cells = {8, 12, 6, 2, 7};
        for (int way = 0; way < 5; way++) {
            book.run().tell("square 5 3;person 2 1 " + way + " 0 9 0;").due(7, "where", 0, 0).due(cells[way], "where", 0, 1);
        }
    }

    private void people() {
        String one = "person 0 0 0 0 0 0;";
        book.terms("PEOPLE 0 .. (8 at most)");
        book.run().due(0, "count", 0).refused(-1, "person", 0, 0);
        book.run().tell(one).due(1, "count", 0).due(0, "person", 0, 0).refused(-1, "person", 1, 0);
        book.run().tell(one.repeat(8)).due(8, "count", 0).due(0, "person", 7, 0).refused(-1, "person", 8, 0);
        book.fault(one.repeat(9), 8 * one.length());
        book.terms("come to a cell at SECOND S (0 .. 99),");
        number("person 0 0 0 ", " 0 0;", 0, 99, 3);
        book.run().tell("person 1 0 4 0 0 0;person 2 0 4 99 0 0;").due(1, "where", 0, 0).due(-9, "where", 0, 1)
                .due(-9, "where", 1, 98).due(2, "where", 1, 99).due(-9, "where", 1, 100);
        book.terms("go one cell by a WAY (0 .. 4) each SECOND,");
        number("person 0 0 ", " 0 0 0;", 0, 4, 2);
        book.terms("for N SECONDS (0 .. 99),");
        number("person 0 0 0 0 ", " 0;", 0, 99, 4);
        book.terms("have a MARK (0 .. 9).");
        number("person 0 0 0 0 0 ", ";", 0, 9, 5);
    }

    private void pictures() {
        String one = "picture 0 0 0 1 0;";
        book.terms("PICTURES 0 .. (10 at most):");
        book.run().due(0, "count", 1).refused(-1, "picture", 0, 0);
        book.run().tell(one).due(1, "count", 1).due(0, "picture", 0, 0).refused(-1, "picture", 1, 0);
        book.run().tell(one.repeat(10)).due(10, "count", 1).due(1, "picture", 9, 3).refused(-1, "picture", 10, 0);
        book.fault(one.repeat(11), 10 * one.length());
        book.terms("from a cell, by a WAY (0 .. 3),");
        number("picture 0 0 ", " 1 0;", 0, 3, 2);
        book.terms("with a REACH (1 .. 9),");
        number("picture 0 0 0 ", " 0;", 1, 9, 3);
        book.terms("at a SECOND (0 .. 99).");
        number("picture 0 0 0 1 ", ";", 0, 99, 4);
    }

    /** A number of an item: each that it may be is read, each that it may not be is a fault at its own place. */
    private void number(String ahead, String behind, int least, int most, int what) {
        String item = ahead.substring(0, ahead.indexOf(' '));
        for (int number = 0; number <= 101; number++) {
            if (number >= least && number <= most) {
                book.run().tell(ahead + number + behind).due(number, item, 0, what);
            } else {
                book.fault(ahead + number + behind, ahead.length());
            }
        }
    }

    private void newObject() {
        book.promise(1, "As told; no WALLS, nobody, no PICTURES.");
        Run run = book.run();
        int[] counts = {0, 0, 0, 0, 0, 0, 8, 8};
        for (int what = 0; what < counts.length; what++) {
            run.due(counts[what], "count", what);
        }
        for (int cell = 0; cell < 64; cell++) {
            run.due(0, "wall", cell % 8, cell / 8).due(0, "on", cell % 8, cell / 8, 0);
        }
        run.refused(-1, "person", 0, 0).refused(-1, "picture", 0, 0).refused(-1, "where", 0, 0).refused(-1, "shows", 0)
                .refused(-1, "hidden", 0, 0).refused(-1, "from", 1, 1, 0, 0).refused(-1, "all", 0, 1, 0).refused(-1, "has", 0, 1)
                .refused(-2, "near", 0, 0, 0).refused(-1, "empty", 0, 0).refused(-1, "waits", 0).refused(-1, "told", 0, 0)
                .refused(-1, "untrue", 0, 0).refused(-1000000, "rate", 0, 0).refused(-2, "back", 0).refused(-2, "back", 1);
        run.due(0, "view", 0, 0, 0, 9, 0).due(256, "from", 0, 9, 0, 0).due(0, "from", 0, 9, 0, 1).due(0, "right", 0)
                .due(-20, "right", 1).due(-20, "right", 2).due(-20, "right", 3).due(0, "joined").due(-9, "hat", 0)
                .due(-9, "hat", 1).due(0, "lost").due(9, "rule", 0).due(0, "trace").due(0, "forget").due(0, "keep", 0)
                .due(0, "clear").due(0, "square");
    }

    private void type() {
        book.promise(2, "The lowest n (1 .. 8) bytes of v,");
        long junk = 0x3f3f3f3f3f3f3f3fL;
        for (int n = 1; n <= 8; n++) {
            // "wall 4 5" ends with the bytes of v, and what is above them is no part of the text
            long bytes = 0x77616c6c20342035L;
            long v = n == 8 ? bytes : junk << 8 * n | bytes & (1L << 8 * n) - 1;
            book.run().write("wall 4 5".substring(0, 8 - n)).due(8, "type", v, n).call("type", ';', 1).due(1, "square")
                    .due(1, "wall", 4, 5).due(1, "count", 2);
        }
        book.fullRun().refused(-1, "type", ';', 0).refused(-1, "type", ';', 9).refused(-1, "type", ';', -1)
                .refused(-1, "type", ';', LEAST).refused(-1, "type", ';', MOST);
        book.promise(2, "the highest of them first, come to THE TEXT: how many it has.");
        book.run().due(8, "type", 0x77616c6c20312032L, 8).due(9, "type", 0x3b, 1).due(1, "square").due(1, "wall", 1, 2);
        book.run().due(2, "type", 0x7761L, 2).due(5, "type", 0x6c6c20L, 3).due(9, "type", 0x3220363bL, 4).due(1, "square")
                .due(1, "wall", 2, 6);
        book.promise(2, "BAD; FULL.");
        for (int n = 1; n <= 8; n++) {
            fullByType(n);
        }
    }

    /** The text's last bytes come by one call of n: that many fit, one more does not. */
    private void fullByType(int n) {
        String text = " ".repeat(383) + "wall 1 1;wall 2 2";
        Run run = book.fullRun().call("clear").write(text.substring(0, 400 - n));
        if (n < 8) {
            run.refused(-3, "type", junkOf(n + 1), n + 1);
        }
        run.refused(-1, "type", junkOf(8), 9).refused(-1, "type", junkOf(8), 0);
        run.write(text.substring(400 - n)).due(400, "count", 5);
        for (int more = 1; more <= 8; more++) {
            run.refused(-3, "type", junkOf(more), more);
        }
        run.refused(-1, "type", junkOf(8), 9).refused(-1, "type", junkOf(8), 0);
        run.refused(-10 - 400, "square").due(400, "clear").due(1, "type", ';', 1);
    }

    private static long junkOf(int bytes) {
        return 0x3b3b3b3b3b3b3b3bL >>> 64 - 8 * bytes;
    }

    private void clear() {
        book.promise(3, "THE TEXT is empty: how many bytes it had.");
        book.run().due(0, "clear").due(0, "clear").due(0, "count", 5);
        book.run().write("w").due(1, "clear").due(0, "count", 5).due(0, "clear").due(0, "square");
        book.run().write("?".repeat(400)).due(400, "clear").due(0, "clear").due(1, "type", ' ', 1).due(0, "square");
        book.run().tell("wall 1 1;").write("wall 2 2;").due(9, "clear").due(1, "wall", 1, 1).due(1, "count", 2)
                .write("wall 3 3;").due(1, "square").due(0, "wall", 2, 2).due(1, "wall", 3, 3).due(0, "clear");
    }

    private void square() {
        book.promise(4, "THE TEXT tells all, and is empty then: how many ITEMS.");
        book.run().due(0, "square").due(0, "square");
        book.fullRun().call("clear").due(0, "square").due(0, "count", 0).due(0, "count", 1).due(0, "count", 2).due(0, "count", 5)
                .due(8, "count", 6).due(8, "count", 7).due(3, "count", 3).due(2, "count", 4);
        book.fullRun().call("clear").tell("square 3 3;wall 2 2;").due(0, "count", 5).due(0, "square").due(0, "wall", 2, 2);
        nothingIsLeft();
        String most = "wall 0 0;".repeat(44);
        book.sound(most + " ".repeat(4), 44);
        book.sound("person 0 0 0 0 0 0;".repeat(8) + "picture 0 0 0 1 0;".repeat(10) + "wall 0 0;".repeat(7) + " ".repeat(5), 25);
        book.promise(4, "-10 less FAULT: nothing changes.");
        book.fault("?", 0);
        book.fault("square 3 3;wall 0 0;person 0 0 0 0 0 0;picture 0 0 0 1 0;wall 3 0;", 62);
        String open = "square 12 12;wall 11 11;person 11 11 0 0 0 0;person 11 11 0 0 0 0;picture 11 11 0 1 0";
        book.fault(open, open.length());
        // a fault, and the text mended after it by what comes behind
        book.fullRun().due(-10 - 17, "square").due(17, "count", 5).call("type", ';', 1).due(2, "square").due(1, "wall", 2, 2)
                .due(1, "wall", 3, 0).due(-2, "back", 0);
    }

    /** Of two texts ahead of a third nothing is left: no side, no wall, nobody, no picture. */
    private void nothingIsLeft() {
        String first = "square 12 3;wall 0 0;wall 11 2;person 5 1 4 0 99 0;person 6 1 4 0 99 0;picture 4 1 0 9 7;picture 4 1 0 9 9;";
        String second = "square 3 12;wall 0 0;wall 2 11;person 1 5 4 0 99 0;picture 0 5 0 9 8;";
        Run third = book.run().tell(first).due(1, "on", 5, 1, 50).tell(second).due(1, "on", 1, 5, 50).tell("person 7 7 4 0 99 0;"
                + "picture 6 7 0 1 5;").due(8, "count", 6).due(8, "count", 7).due(0, "count", 2).due(1, "count", 0).due(1, "count", 1);
        for (int cell = 0; cell < 64; cell++) {
            third.due(0, "wall", cell % 8, cell / 8).due(cell == 63 ? 1 : 0, "on", cell % 8, cell / 8, 50);
        }
        book.run().tell(first).due(1, "on", 5, 1, 50).tell(second).due(1, "on", 1, 5, 50).tell("person 7 7 4 0 99 0;")
                .due(0, "on", 5, 1, 50).due(0, "on", 1, 5, 50).due(1, "on", 7, 7, 50).due(2, "from", 1, 1, 50, 0);
        third.due(5, "told", 0, 2).due(5, "told", 0, 3).due(1, "told", 0, 0).due(-9, "told", 0, 1).tell(first).due(2, "count", 2)
                .due(1, "shows", 0).due(7, "told", 0, 2).due(9, "told", 0, 3);
    }

    private void wall() {
        book.promise(5, "Whether a cell is a WALL. BAD.");
        int[][] sides = {{3, 3}, {3, 12}, {12, 3}, {12, 12}};
        for (int[] side : sides) {
            int wide = side[0];
            int high = side[1];
            Run run = book.run().tell("square " + wide + " " + high + ";wall 0 0;wall " + (wide - 1) + " " + (high - 1) + ";")
                    .due(1, "wall", 0, 0).due(0, "wall", wide - 1, 0).due(0, "wall", 0, high - 1).due(1, "wall", wide - 1, high - 1);
            long[][] beyond = {{-1, 0}, {0, -1}, {-1, -1}, {wide, 0}, {0, high}, {wide, high}, {wide, -1}, {-1, high}, {LEAST, 0},
                {MOST, 0}, {0, LEAST}, {0, MOST}, {-wide, 1}};
            for (long[] cell : beyond) {
                run.refused(-1, "wall", cell);
            }
        }
    }

    private void person() {
        book.promise(6, "Of a person: 0 x, 1 y, 2 WAY, 3 S, 4 N, 5 MARK. BAD.");
        Run run = book.run().tell("square 12 12;person 0 0 0 0 0 0;" + "person 3 4 1 5 6 7;".repeat(6) + "person 11 10 4 99 98 9;");
        long[][] rows = {{0, 0, 0, 0, 0, 0}, {3, 4, 1, 5, 6, 7}, {11, 10, 4, 99, 98, 9}};
        int[] people = {0, 1, 7};
        for (int k = 0; k < people.length; k++) {
            for (int what = 0; what < 6; what++) {
                run.due(rows[k][what], "person", people[k], what);
            }
            run.refused(-1, "person", people[k], -1).refused(-1, "person", people[k], 6);
        }
        run.refused(-1, "person", -1, 0).refused(-1, "person", 8, 0).refused(-1, "person", LEAST, 0).refused(-1, "person", MOST, 5)
                .refused(-1, "person", 0, LEAST).refused(-1, "person", 0, MOST);
    }

    private void picture() {
        book.promise(7, "Of a PICTURE: 0 x, 1 y, 2 WAY, 3 REACH, 4 SECOND. BAD.");
        Run run = book.run().tell("square 12 12;picture 0 0 0 1 0;" + "picture 3 4 1 5 6;".repeat(8) + "picture 11 10 3 9 99;");
        long[][] rows = {{0, 0, 0, 1, 0}, {3, 4, 1, 5, 6}, {11, 10, 3, 9, 99}};
        int[] pictures = {0, 1, 9};
        for (int k = 0; k < pictures.length; k++) {
            for (int what = 0; what < 5; what++) {
                run.due(rows[k][what], "picture", pictures[k], what);
            }
            run.refused(-1, "picture", pictures[k], -1).refused(-1, "picture", pictures[k], 5);
        }
        run.refused(-1, "picture", -1, 0).refused(-1, "picture", 10, 0).refused(-1, "picture", LEAST, 0)
                .refused(-1, "picture", MOST, 4).refused(-1, "picture", 0, LEAST).refused(-1, "picture", 0, MOST);
    }

    private void count() {
        book.promise(32, "0 PEOPLE, 1 PICTURES, 2 WALLS, 3 FACTS, 4 SEEN, 5 bytes of THE TEXT, 6 WIDE, 7 HIGH. BAD.");
        Run most = book.run().tell("square 12 3;" + "person 0 0 0 0 0 0;".repeat(8) + "picture 0 0 0 1 0;".repeat(10)
                + "wall 0 0;wall 1 0;wall 1 0;wall 2 0;");
        for (int k = 0; k < 20; k++) {
            most.call("fact", 0, 0, 1, 0);
        }
        for (int k = 0; k < 8; k++) {
            most.call("seen", 0, 0, 0, 0);
        }
        most.write(" ".repeat(400));
        int[] counts = {8, 10, 3, 20, 8, 400, 12, 3};
        for (int what = 0; what < counts.length; what++) {
            most.due(counts[what], "count", what);
        }
        most.refused(-1, "count", -1).refused(-1, "count", 8).refused(-1, "count", LEAST).refused(-1, "count", MOST);
        most.call("clear").tell("square 3 12;").call("forget");
        int[] least = {0, 0, 0, 0, 0, 0, 3, 12};
        for (int what = 0; what < least.length; what++) {
            most.due(least[what], "count", what);
        }
        most.refused(-1, "count", -1).refused(-1, "count", 8);
    }
}
