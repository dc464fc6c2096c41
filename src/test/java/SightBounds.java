/** The bounds of part 2 of the terms: where one is, views, what hides, from where; and of promises 8 to 13. */
final class SightBounds {
    private static final int LEAST = Integer.MIN_VALUE, MOST = Integer.MAX_VALUE;

    /** One step ahead and one to the right, by each way. */
    private static final int[][] AHEAD = {{1, 0}, {0, 1}, {-1, 0}, {0, -1}};
    private static final int[][] RIGHT = {{0, 1}, {-1, 0}, {0, -1}, {1, 0}};

    /** In a square of 12 by 12, by each way: a cell with nine ahead and five either way. */
    private static final int[][] START = {{0, 6}, {6, 0}, {11, 6}, {6, 11}};

    private final Book book;

    private SightBounds(Book book) {
        this.book = book;
    }

    static void all(Book book) {
        SightBounds bounds = new SightBounds(book);
        bounds.seconds();
        bounds.farther();
        bounds.beyondTheSquare();
        bounds.onWalls();
        bounds.ahead();
        bounds.aside();
        bounds.nextWay();
        bounds.between();
        bounds.cutTowardsNone();
        bounds.firstInTheWay();
        bounds.beyondHidesNothing();
        bounds.showsAll();
        bounds.whoTakesIt();
        bounds.fromWhere();
        bounds.where();
        bounds.on();
        bounds.shows();
        bounds.view();
        bounds.hidden();
        bounds.from();
    }

    private static String cell(int way, int ahead, int right) {
        int x = START[way][0] + ahead * AHEAD[way][0] + right * RIGHT[way][0];
        int y = START[way][1] + ahead * AHEAD[way][1] + right * RIGHT[way][1];
        return x + " " + y;
    }

    /** One who stands there at second 0. */
    private static String one(int way, int ahead, int right) {
        return "person " + cell(way, ahead, right) + " 4 0 0 0;";
    }

    private static String wall(int way, int ahead, int right) {
        return "wall " + cell(way, ahead, right) + ";";
    }

    private static String picture(int way, int reach) {
        return "picture " + cell(way, 0, 0) + " " + way + " " + reach + " 0;";
    }

    private Run great(String items) {
        return book.run().tell("square 12 12;" + items);
    }

    private void seconds() {
        book.terms("2 WHERE one is at a SECOND t: from S to S and N:");
        int[][] rows = {{0, 0}, {0, 1}, {0, 99}, {1, 0}, {5, 7}, {99, 0}, {99, 1}, {99, 99}, {98, 99}};
        for (int[] row : rows) {
            int from = row[0];
            int to = row[0] + row[1];
            Run run = book.run().tell("person 3 2 4 " + row[0] + " " + row[1] + " 0;").due(19, "where", 0, from)
                    .due(19, "where", 0, to).due(1, "on", 3, 2, from).due(1, "on", 3, 2, to).due(-9, "where", 0, to + 1)
                    .due(0, "on", 3, 2, to + 1);
            if (from > 0) {
                run.due(-9, "where", 0, from - 1).due(0, "on", 3, 2, from - 1).due(-9, "where", 0, 0);
            }
            run.due(to == 199 ? 19 : -9, "where", 0, 199);
        }
        book.terms("or t is another.");
        book.run().tell("person 3 2 4 10 0 0;").due(-9, "where", 0, 9).due(19, "where", 0, 10).due(-9, "where", 0, 11)
                .due(-9, "where", 0, 0).due(-9, "where", 0, 199);
    }

    private void farther() {
        book.terms("its cell and (t less S) cells farther by its WAY;");
        int[] steps = {1, 12, -1, -12, 0};
        for (int way = 0; way < 5; way++) {
            Run run = book.run().tell("square 12 12;person 6 6 " + way + " 40 99 0;").due(-9, "where", 0, 39);
            for (int gone = 0; gone <= 5; gone++) {
                run.due(78 + gone * steps[way], "where", 0, 40 + gone);
            }
        }
    }

    /** Nobody comes in again at the other side, nor in the next row. */
    private void beyondTheSquare() {
        book.terms("it is nowhere, if that is beyond THE SQUARE");
        int[][] sides = {{3, 3}, {3, 12}, {12, 3}, {12, 12}, {5, 4}};
        for (int[] side : sides) {
            int right = side[0] - 1;
            int down = side[1] - 1;
            String[] edges = {right + " 1 0", "1 " + down + " 1", "0 1 2", "1 0 3"};
            int[] cells = {side[0] + right, side[0] * down + 1, side[0], 1};
            for (int way = 0; way < 4; way++) {
                Run run = book.run().tell("square " + side[0] + " " + side[1] + ";person " + edges[way] + " 7 99 0;")
                        .due(cells[way], "where", 0, 7);
                for (int t = 8; t <= 199; t += t < 24 ? 1 : 25) {
                    run.due(-9, "where", 0, t);
                }
                for (int cell = 0; cell < side[0] * side[1]; cell++) {
                    run.due(0, "on", cell % side[0], cell / side[0], 8);
                }
            }
        }
        // through the whole square, from its first cell to its last
        Run run = book.run().tell("square 12 3;person 0 2 0 0 99 0;");
        for (int t = 0; t <= 13; t++) {
            run.due(t < 12 ? 24 + t : -9, "where", 0, t);
        }
    }

    private void onWalls() {
        book.terms("or a WALL (it goes on all the same),");
        book.run().tell("square 6 3;wall 0 1;wall 2 1;wall 3 1;wall 5 1;person 0 1 0 0 9 0;")
                .due(-9, "where", 0, 0).due(7, "where", 0, 1).due(-9, "where", 0, 2).due(-9, "where", 0, 3).due(10, "where", 0, 4)
                .due(-9, "where", 0, 5).due(-9, "where", 0, 6).due(0, "on", 0, 1, 0).due(1, "on", 1, 1, 1).due(0, "on", 2, 1, 2);
        book.run().tell("wall 4 4;person 4 4 4 0 99 0;").due(-9, "where", 0, 0).due(-9, "where", 0, 99).due(0, "on", 4, 4, 50);
        // one who is nowhere hides nobody
        book.run().tell("square 5 3;wall 0 0;person 2 1 4 0 9 0;person 1 1 4 1 9 0;person 0 0 4 0 9 0;picture 0 1 0 4 0;")
                .due(1, "shows", 0);
    }

    private void ahead() {
        book.terms("A VIEW from a cell by a WAY with a REACH at a SECOND: all cells a AHEAD (1 .. REACH)");
        for (int way = 0; way < 4; way++) {
            for (int ahead = 0; ahead <= 10; ahead++) {
                Run run = great(one(way, ahead, 0));
                for (int reach = 1; reach <= 9; reach++) {
                    run.due(ahead >= 1 && ahead <= reach ? 1 : 0, "view", START[way][0], START[way][1], way, reach, 0);
                }
                run.due(0, "view", START[way][0], START[way][1], (way + 2) % 4, 9, 0);
            }
        }
    }

    private void aside() {
        book.terms("and b to the side (a by 2, cut, at most either way;");
        for (int way = 0; way < 4; way++) {
            for (int ahead = 1; ahead <= 9; ahead++) {
                int most = ahead / 2;
                int[] sides = {-most - 1, -most, most, most + 1};
                for (int side : sides) {
                    int state = Math.abs(side) <= most ? 1 : 0;
                    great(one(way, ahead, side) + picture(way, 9)).due(state, "shows", 0).due(state, "hidden", 0, 0);
                }
            }
        }
    }

    /** Two ahead and one to the right: a wall there is seen from there by the way alone. */
    private void nextWay() {
        book.terms("to the right by the WAY that is next, 0 behind 3: above 0).");
        for (int way = 0; way < 4; way++) {
            for (int right = -1; right <= 1; right += 2) {
                // 4 ahead and 2 to that side: by 1 0, 2 1, 3 1; the same cells to the other side hide nothing
                great(one(way, 4, 2 * right) + wall(way, 2, right) + picture(way, 9)).due(2, "hidden", 0, 0).due(0, "shows", 0);
                great(one(way, 4, 2 * right) + wall(way, 2, -right) + picture(way, 9)).due(1, "hidden", 0, 0).due(1, "shows", 0);
            }
        }
    }

    private void between() {
        book.terms("It is HIDDEN, if of the cells k AHEAD and b times k by a to the side (cut towards 0), k from 1 to a less 1,");
        for (int way = 0; way < 4; way++) {
            // one ahead: nothing can be between
            great(one(way, 1, 0) + wall(way, 0, 0) + one(way, 0, 0) + picture(way, 9)).due(1, "hidden", 0, 0).due(1, "shows", 0);
            for (int ahead = 2; ahead <= 9; ahead++) {
                for (int k = 0; k <= ahead + 1 && k <= 9; k++) {
                    int byWall = k == ahead ? 0 : k >= 1 && k < ahead ? 2 : 1;
                    int byPeople = k >= 1 && k < ahead ? 3 : 1;
                    great(one(way, ahead, 0) + wall(way, k, 0) + picture(way, 9)).due(byWall, "hidden", 0, 0);
                    great(one(way, ahead, 0) + one(way, k, 0) + picture(way, 9)).due(byPeople, "hidden", 0, 0);
                }
            }
        }
    }

    /** Each cell of the greatest view to either side: only one of each row is in the way. */
    private void cutTowardsNone() {
        book.terms("b times k by a to the side (cut towards 0)");
        for (int way = 0; way < 4; way++) {
            for (int sign = -1; sign <= 1; sign += 2) {
                path(way, 2, 1, sign, 0);
                path(way, 3, 1, sign, 0, 0);
                path(way, 4, 1, sign, 0, 0, 0);
                path(way, 4, 2, sign, 0, 1, 1);
                path(way, 5, 2, sign, 0, 0, 1, 1);
                path(way, 6, 3, sign, 0, 1, 1, 2, 2);
                path(way, 7, 2, sign, 0, 0, 0, 1, 1, 1);
                path(way, 8, 3, sign, 0, 0, 1, 1, 1, 2, 2);
                path(way, 9, 4, sign, 0, 0, 1, 1, 2, 2, 3, 3);
                path(way, 9, 1, sign, 0, 0, 0, 0, 0, 0, 0, 0);
            }
        }
    }

    /** The cells on the way to one at a ahead and b aside: to the side by those numbers, for 1, 2, .. ahead. */
    private void path(int way, int a, int b, int sign, int... sides) {
        for (int k = 1; k < a; k++) {
            for (int side = -1; side <= 4; side++) {
                boolean isInTheWay = side == sides[k - 1];
                great(one(way, a, b * sign) + wall(way, k, side * sign) + picture(way, 9)).due(isInTheWay ? 2 : 1, "hidden", 0, 0);
                great(one(way, a, b * sign) + one(way, k, side * sign) + picture(way, 9))
                        .due(isInTheWay ? 3 : 1, "hidden", 0, 0).due(isInTheWay ? 0 : 1, "told", 0, 0);
            }
        }
    }

    private void firstInTheWay() {
        book.terms("one is a WALL (the first of these: by a WALL) or has people on it (by people).");
        for (int way = 0; way < 4; way++) {
            great(one(way, 3, 0) + wall(way, 1, 0) + one(way, 2, 0) + picture(way, 3)).due(2, "hidden", 0, 0).due(2, "hidden", 0, 1)
                    .due(0, "shows", 0);
            great(one(way, 3, 0) + one(way, 1, 0) + wall(way, 2, 0) + picture(way, 3)).due(3, "hidden", 0, 0).due(1, "hidden", 0, 1)
                    .due(2, "shows", 0);
            great(one(way, 9, 0) + one(way, 7, 0) + wall(way, 8, 0) + picture(way, 9)).due(3, "hidden", 0, 0);
            great(one(way, 9, 0) + wall(way, 7, 0) + one(way, 8, 0) + picture(way, 9)).due(2, "hidden", 0, 0).due(2, "hidden", 0, 1);
        }
        // one who is told to stand on a wall is not on it: it is the wall that hides
        book.run().tell("square 5 3;wall 1 1;person 2 1 4 0 9 0;person 1 1 4 0 9 0;picture 0 1 0 4 0;").due(2, "hidden", 0, 0)
                .due(0, "hidden", 0, 1);
    }

    private void beyondHidesNothing() {
        book.terms("(A cell beyond THE SQUARE hides nothing.)");
        // along each edge, with walls at the ends of the rows next to it
        book.run().tell("square 3 3;wall 2 1;person 2 0 4 0 9 0;picture 0 0 0 9 0;").due(1, "shows", 0);
        book.run().tell("square 3 3;wall 0 1;wall 2 1;person 2 2 4 0 9 0;picture 0 2 0 9 0;").due(1, "shows", 0);
        book.run().tell("square 3 3;wall 2 0;wall 2 1;wall 2 2;person 0 2 4 0 9 0;picture 0 0 1 9 0;").due(1, "shows", 0);
        book.run().tell("square 3 3;wall 0 0;wall 0 1;wall 0 2;person 2 0 4 0 9 0;picture 2 2 3 9 0;").due(1, "shows", 0);
        // one who has gone beyond hides nobody, wherever it would come in again
        book.run().tell("square 4 3;person 3 1 4 0 9 0;person 3 0 0 0 9 0;picture 0 1 0 9 2;").due(-9, "where", 1, 2)
                .due(1, "shows", 0);
        // a view of which no cell is on the square
        book.run().tell("square 3 3;person 0 0 4 0 9 0;person 1 1 4 0 9 0;").due(0, "view", 0, 0, 2, 9, 0).due(0, "view", 0, 0, 3, 9, 0)
                .due(0, "view", 2, 2, 0, 9, 0).due(0, "view", 2, 2, 1, 9, 0);
    }

    private void showsAll() {
        book.terms("SHOWS: all people (bits) on cells of the VIEW that are not HIDDEN.");
        // nobody; all eight on one cell; all eight on cells of their own
        book.run().tell("square 3 3;picture 0 0 0 9 0;").due(0, "shows", 0);
        book.run().tell("square 3 3;" + "person 1 0 4 0 0 0;".repeat(8) + "picture 0 0 0 9 0;picture 0 0 0 9 1;")
                .due(255, "shows", 0).due(0, "shows", 1);
        StringBuilder apart = new StringBuilder();
        for (int k = 0; k < 8; k++) {
            apart.append(one(0, 8, k - 4));
        }
        great(apart + picture(0, 9) + picture(0, 8) + picture(0, 7)).due(255, "shows", 0).due(255, "shows", 1).due(0, "shows", 2);
        // the last of eight alone
        book.run().tell("person 7 7 4 0 0 0;".repeat(7) + "person 1 0 4 0 0 0;picture 0 0 0 1 0;").due(128, "shows", 0);
    }

    private void whoTakesIt() {
        book.terms("(Who takes it, is not told.)");
        // those on the picture's own cell are neither in it nor in its way
        book.run().tell("square 4 3;person 0 1 4 0 9 0;person 2 1 4 0 9 0;picture 0 1 0 9 0;").due(2, "shows", 0)
                .due(0, "hidden", 0, 0).due(1, "hidden", 0, 1);
    }

    private void fromWhere() {
        book.terms("FROM WHERE: of all cells that are no WALL and WAYS 0 .. 3");
        book.run().tell("square 3 3;").due(36, "from", 0, 1, 0, 0).due(0, "from", 0, 1, 0, 1);
        book.run().tell("square 12 12;").due(576, "from", 0, 9, 199, 0).due(0, "from", 0, 9, 199, 1);
        book.run().tell("square 3 3;wall 0 0;wall 2 2;").due(28, "from", 0, 1, 0, 0).due(4, "from", 0, 1, 0, 1);
        StringBuilder walls = new StringBuilder("square 3 3;");
        for (int cell = 0; cell < 9; cell++) {
            walls.append("wall ").append(cell % 3).append(' ').append(cell / 3).append(';');
        }
        book.run().tell(walls.toString()).due(0, "from", 0, 9, 0, 0).due(-9, "from", 0, 9, 0, 1);
        book.terms("those by which a VIEW with a REACH at a SECOND SHOWS just a set:");
        // two side by side, each seen from the four cells next to it; where people stand, a picture can be taken, too
        book.run().tell("square 4 3;person 1 1 4 0 5 0;person 2 1 4 0 5 0;").due(4, "from", 1, 1, 0, 0).due(4, "from", 2, 1, 0, 0)
                .due(0, "from", 3, 1, 0, 0).due(48 - 8, "from", 0, 1, 0, 0).due(48, "from", 0, 1, 6, 0).due(0, "from", 1, 1, 6, 0);
        book.terms("how many; the first (4 times the cell, and the WAY).");
        // of all places the last alone, the first alone
        book.run().tell("square 3 3;wall 1 1;wall 2 0;person 2 1 4 0 0 0;").due(1, "from", 1, 1, 0, 0).due(35, "from", 1, 1, 0, 1);
        book.run().tell("square 3 3;wall 1 1;wall 2 0;person 1 0 4 0 0 0;").due(1, "from", 1, 1, 0, 0).due(0, "from", 1, 1, 0, 1);
        // none at all
        book.run().tell("square 3 3;person 0 0 4 0 0 0;person 2 2 4 0 0 0;").due(0, "from", 3, 1, 0, 0).due(-9, "from", 3, 1, 0, 1)
                .due(2, "from", 1, 1, 0, 0).due(6, "from", 1, 1, 0, 1);
    }

    private void where() {
        book.promise(8, "The number of the cell where one is at a SECOND (0 .. 199); NONE. BAD.");
        Run run = book.run().tell("person 0 0 4 0 99 0;" + "person 1 1 4 5 5 0;".repeat(6) + "person 7 7 4 99 99 0;");
        run.due(0, "where", 0, 0).due(0, "where", 0, 99).due(-9, "where", 0, 100).due(-9, "where", 0, 199).due(63, "where", 7, 99)
                .due(63, "where", 7, 198).due(-9, "where", 7, 199).due(-9, "where", 7, 0).due(9, "where", 6, 5);
        run.refused(-1, "where", 0, -1).refused(-1, "where", 0, 200).refused(-1, "where", -1, 0).refused(-1, "where", 8, 0)
                .refused(-1, "where", 0, LEAST).refused(-1, "where", 0, MOST).refused(-1, "where", LEAST, 0)
                .refused(-1, "where", MOST, 0).refused(-1, "where", 8, 200);
    }

    private void on() {
        book.promise(9, "Who is on a cell at a SECOND (0 .. 199), as bits. BAD.");
        Run run = book.run().tell("square 3 12;" + "person 2 11 4 99 99 0;".repeat(8));
        run.due(255, "on", 2, 11, 198).due(0, "on", 2, 11, 199).due(255, "on", 2, 11, 99).due(0, "on", 2, 11, 98).due(0, "on", 0, 0, 0)
                .due(0, "on", 2, 0, 199).due(0, "on", 0, 11, 199);
        long[][] bad = {{-1, 0, 0}, {3, 0, 0}, {0, -1, 0}, {0, 12, 0}, {0, 0, -1}, {0, 0, 200}, {11, 2, 99}, {LEAST, 0, 0},
            {MOST, 0, 0}, {0, LEAST, 0}, {0, MOST, 0}, {0, 0, LEAST}, {0, 0, MOST}};
        for (long[] numbers : bad) {
            run.refused(-1, "on", numbers);
        }
    }

    private void shows() {
        book.promise(10, "Whom a PICTURE SHOWS, as bits. BAD.");
        Run run = book.run().tell("square 3 3;" + "person 1 0 4 0 0 0;".repeat(8) + "picture 0 0 1 1 0;".repeat(9)
                + "picture 0 0 0 1 0;");
        run.due(0, "shows", 0).due(0, "shows", 8).due(255, "shows", 9);
        run.refused(-1, "shows", -1).refused(-1, "shows", 10).refused(-1, "shows", LEAST).refused(-1, "shows", MOST);
        book.fullRun().due(0, "shows", 2).refused(-1, "shows", 3);
    }

    private void view() {
        book.promise(11, "Whom a VIEW SHOWS (SECOND 0 .. 199). BAD.");
        Run run = book.run().tell("square 12 3;person 9 1 4 99 99 0;person 10 1 4 99 99 0;person 2 2 4 0 0 0;");
        run.due(1, "view", 0, 1, 0, 9, 198).due(0, "view", 0, 1, 0, 9, 199).due(0, "view", 0, 1, 0, 8, 198)
                .due(1, "view", 0, 1, 0, 9, 99).due(0, "view", 0, 1, 0, 9, 98).due(2, "view", 11, 1, 2, 9, 198)
                .due(4, "view", 0, 2, 0, 9, 0).due(0, "view", 11, 2, 3, 1, 0).due(4, "view", 2, 0, 1, 2, 0)
                .due(0, "view", 2, 0, 1, 1, 0);
        long[][] bad = {{-1, 0, 0, 1, 0}, {12, 0, 0, 1, 0}, {0, -1, 0, 1, 0}, {0, 3, 0, 1, 0}, {0, 0, -1, 1, 0}, {0, 0, 4, 1, 0},
            {0, 0, 0, 0, 0}, {0, 0, 0, 10, 0}, {0, 0, 0, -1, 0}, {0, 0, 0, 1, -1}, {0, 0, 0, 1, 200}, {LEAST, 0, 0, 1, 0},
            {0, MOST, 0, 1, 0}, {0, 0, MOST, 1, 0}, {0, 0, LEAST, 1, 0}, {0, 0, 0, MOST, 0}, {0, 0, 0, LEAST, 0},
            {0, 0, 0, 1, MOST}, {0, 0, 0, 1, LEAST}};
        for (long[] numbers : bad) {
            run.refused(-1, "view", numbers);
        }
    }

    private void hidden() {
        book.promise(12, "One in a PICTURE: 0 it is not in the VIEW, 1 it is SHOWN, 2 it is HIDDEN by a WALL, 3 by people. BAD.");
        Run run = book.run().tell("square 12 3;wall 5 1;person 2 1 4 0 0 0;person 4 1 4 0 0 0;person 6 1 4 0 0 0;person 7 1 4 1 0 0;"
                + "picture 0 1 0 9 0;picture 4 1 0 9 0;picture 0 1 0 1 0;");
        run.due(1, "hidden", 0, 0).due(3, "hidden", 0, 1).due(3, "hidden", 0, 2).due(0, "hidden", 0, 3).due(0, "hidden", 1, 0)
                .due(0, "hidden", 1, 1).due(2, "hidden", 1, 2).due(0, "hidden", 2, 0);
        // the picture's second counts, whatever second was asked for last
        run.due(8, "on", 7, 1, 1).due(1, "hidden", 0, 0).due(0, "on", 7, 1, 0).due(8, "view", 6, 1, 0, 9, 1).due(3, "hidden", 0, 1);
        long[][] bad = {{-1, 0}, {3, 0}, {0, -1}, {0, 4}, {LEAST, 0}, {MOST, 0}, {0, LEAST}, {0, MOST}, {3, 4}, {-1, -1}};
        for (long[] numbers : bad) {
            run.refused(-1, "hidden", numbers);
        }
        book.run().tell("picture 0 0 0 1 0;").refused(-1, "hidden", 0, 0);
        book.run().tell("person 0 0 0 1 0 0;").refused(-1, "hidden", 0, 0);
        Run most = book.run().tell("person 1 0 4 0 0 0;".repeat(8) + "picture 0 0 0 1 0;".repeat(10));
        most.due(1, "hidden", 9, 7).refused(-1, "hidden", 10, 7).refused(-1, "hidden", 9, 8);
    }

    private void from() {
        book.promise(13, "FROM WHERE (SECOND 0 .. 199): how many (what = 0), the first (1); NONE.");
        Run run = book.run().tell("square 3 3;person 1 1 4 99 99 0;person 1 1 4 0 0 0;");
        run.due(4, "from", 1, 1, 198, 0).due(5, "from", 1, 1, 198, 1).due(36, "from", 0, 9, 199, 0).due(0, "from", 1, 9, 199, 0)
                .due(-9, "from", 1, 9, 199, 1).due(4, "from", 2, 9, 0, 0).due(0, "from", 3, 9, 0, 0).due(-9, "from", 3, 9, 0, 1);
        book.promise(13, "BAD (bits of people that there are not, too).");
        long[][] bad = {{-1, 1, 0, 0}, {4, 1, 0, 0}, {5, 1, 0, 0}, {128, 1, 0, 0}, {256, 1, 0, 0}, {LEAST, 1, 0, 0}, {MOST, 1, 0, 0},
            {1, 0, 0, 0}, {1, 10, 0, 0}, {1, -1, 0, 0}, {1, LEAST, 0, 0}, {1, MOST, 0, 0}, {1, 1, -1, 0}, {1, 1, 200, 0},
            {1, 1, LEAST, 0}, {1, 1, MOST, 0}, {1, 1, 0, -1}, {1, 1, 0, 2}, {1, 1, 0, LEAST}, {1, 1, 0, MOST}};
        for (long[] numbers : bad) {
            run.refused(-1, "from", numbers);
        }
        book.run().due(256, "from", 0, 1, 0, 0).refused(-1, "from", 1, 1, 0, 0);
        book.run().tell("person 0 0 4 0 0 0;").due(2, "from", 1, 1, 0, 0).refused(-1, "from", 2, 1, 0, 0);
        Run most = book.run().tell("person 0 0 4 0 0 0;".repeat(8));
        most.due(2, "from", 255, 1, 0, 0).due(6, "from", 255, 1, 0, 1).due(0, "from", 254, 1, 0, 0).refused(-1, "from", 256, 1, 0, 0)
                .refused(-1, "from", 257, 1, 0, 0).refused(-1, "from", -256, 1, 0, 0);
    }
}
