/** Promises 8 to 13: who is where, who is in whose picture, what hides whom, from where. */
public final class SightTest {
    private static final Due DUE = new Due();

    public static void main(String[] args) {
        seconds();
        ways();
        wallsAndEdges();
        onCells();
        shapeOfView();
        hiding();
        sidesOfPaths();
        sidesByWays();
        hiddenEdges();
        viewEdges();
        fromWhere();
        DUE.end();
    }

    private static void due(String call, long got, long want) {
        DUE.due(call, got, want);
    }

    private static void seconds() {
        SquareAlbum a = Due.album("person 3 4 4 10 5 0;person 0 0 4 99 99 0;person 7 7 0 0 0 0;");
        int cell = 4 * 8 + 3;
        int[][] rows = {{0, 9, -9}, {0, 10, cell}, {0, 12, cell}, {0, 15, cell}, {0, 16, -9}, {0, 0, -9}, {0, 199, -9},
            {1, 98, -9}, {1, 99, 0}, {1, 198, 0}, {1, 199, -9}, {2, 0, 63}, {2, 1, -9},
            {0, -1, -1}, {0, 200, -1}, {-1, 0, -1}, {3, 0, -1}, {0, Integer.MIN_VALUE, -1}, {0, Integer.MAX_VALUE, -1},
            {Integer.MAX_VALUE, 0, -1}, {Integer.MIN_VALUE, 0, -1}};
        for (int[] row : rows) {
            due("where(" + row[0] + ", " + row[1] + ")", a.where(row[0], row[1]), row[2]);
        }
    }

    private static void ways() {
        SquareAlbum a = Due.album("square 9 7;person 4 3 0 2 9 0;person 4 3 1 2 9 0;person 4 3 2 2 9 0;"
                + "person 4 3 3 2 9 0;person 4 3 4 2 9 0;");
        int[] steps = {1, 9, -1, -9, 0};
        for (int p = 0; p < 5; p++) {
            for (int gone = 0; gone <= 3; gone++) {
                due("way " + p + " gone " + gone, a.where(p, 2 + gone), 31 + gone * steps[p]);
            }
        }
        due("beyond the right", a.where(0, 2 + 5), -9);
        due("the last at the right", a.where(0, 2 + 4), 35);
        due("beyond the bottom", a.where(1, 2 + 4), -9);
        due("the last at the left", a.where(2, 2 + 4), 27);
        due("beyond the left", a.where(2, 2 + 5), -9);
        due("beyond the top", a.where(3, 2 + 4), -9);
    }

    private static void wallsAndEdges() {
        SquareAlbum a = Due.album("square 6 3;wall 2 0;wall 3 0;wall 0 2;person 0 0 0 0 99 0;person 0 2 4 0 99 0;");
        int[] cells = {0, 1, -9, -9, 4, 5, -9, -9};
        for (int t = 0; t < cells.length; t++) {
            due("where(0, " + t + ")", a.where(0, t), cells[t]);
        }
        due("nowhere on a wall at once", a.where(1, 0), -9);
        due("nobody on a wall", a.on(2, 0, 2), 0);
        due("nobody who stands in a wall", a.on(0, 2, 9), 0);
    }

    private static void onCells() {
        SquareAlbum a = Due.album("square 5 4;person 0 1 0 0 9 0;person 2 1 4 0 2 0;person 2 3 3 0 9 0;");
        due("on(2, 1, 2)", a.on(2, 1, 2), 7);
        due("on(2, 1, 0)", a.on(2, 1, 0), 2);
        due("on(2, 1, 3)", a.on(2, 1, 3), 0);
        due("on(3, 1, 3)", a.on(3, 1, 3), 1);
        due("on(0, 1, 0)", a.on(0, 1, 0), 1);
        due("on(4, 0, 0)", a.on(4, 0, 0), 0);
        due("on(4, 0, 199)", a.on(4, 0, 199), 0);
        int[][] bad = {{5, 0, 0}, {0, 4, 0}, {-1, 0, 0}, {0, -1, 0}, {0, 0, -1}, {0, 0, 200},
            {Integer.MAX_VALUE, 0, 0}, {0, Integer.MIN_VALUE, 0}};
        for (int[] row : bad) {
            due("on(" + row[0] + ", " + row[1] + ", " + row[2] + ")", a.on(row[0], row[1], row[2]), -1);
        }
    }

    /** Which cells a view has: one stands alone on each cell in turn, so that nothing hides it. */
    private static void shapeOfView() {
        for (int cell = 0; cell < 121; cell++) {
            int x = cell % 11;
            int y = cell / 11;
            SquareAlbum a = Due.album("square 11 11;person " + x + " " + y + " 4 0 0 0;picture 5 5 0 4 0;picture 5 5 1 4 0;"
                    + "picture 5 5 2 4 0;picture 5 5 3 4 0;");
            int[] aheads = {x - 5, y - 5, 5 - x, 5 - y};
            int[] sides = {y - 5, x - 5, y - 5, x - 5};
            for (int way = 0; way < 4; way++) {
                for (int reach = 1; reach <= 5; reach++) {
                    boolean in = aheads[way] >= 1 && aheads[way] <= reach && 2 * Math.abs(sides[way]) <= aheads[way];
                    due("cell " + cell + ": view(5, 5, " + way + ", " + reach + ", 0)", a.view(5, 5, way, reach, 0), in ? 1 : 0);
                    if (reach == 4) {
                        due("cell " + cell + ": shows(" + way + ")", a.shows(way), in ? 1 : 0);
                        due("cell " + cell + ": hidden(" + way + ", 0)", a.hidden(way, 0), in ? 1 : 0);
                    }
                }
            }
        }
    }

    private static void hiding() {
        // all in one line to the right: a wall behind people, people behind a wall
        SquareAlbum a = Due.album("square 12 3;wall 4 1;person 2 1 4 0 0 0;person 2 1 4 0 0 0;person 6 1 4 0 0 0;"
                + "picture 0 1 0 9 0;picture 3 1 0 9 0;picture 0 1 0 9 1;picture 7 1 2 9 0;picture 4 1 0 2 0;");
        due("shows(0)", a.shows(0), 3);
        due("hidden(0, 0)", a.hidden(0, 0), 1);
        due("hidden(0, 1): of one cell none hides the other", a.hidden(0, 1), 1);
        due("hidden(0, 2): people are first", a.hidden(0, 2), 3);
        due("shows(1)", a.shows(1), 0);
        due("hidden(1, 2): a wall", a.hidden(1, 2), 2);
        due("hidden(1, 0): behind the taker", a.hidden(1, 0), 0);
        due("shows(2): they are gone", a.shows(2), 0);
        due("hidden(2, 0)", a.hidden(2, 0), 0);
        due("shows(3)", a.shows(3), 4);
        due("hidden(3, 0): people first", a.hidden(3, 0), 3);
        due("a picture from a wall", a.shows(4), 4);
        due("a view's own cell hides nothing", a.view(2, 1, 0, 9, 0), 0);
        due("a view's own cell is not in it", a.view(6, 1, 0, 9, 0), 0);
        SquareAlbum b = Due.album("square 12 3;wall 2 1;person 4 1 4 0 0 0;person 6 1 4 0 0 0;picture 0 1 0 9 0;");
        due("the wall is first", b.hidden(0, 1), 2);
    }

    /** What is b times k by a, cut towards 0: to both sides alike. */
    private static void sidesOfPaths() {
        for (int sign = -1; sign <= 1; sign += 2) {
            String end = "person 6 " + (5 + sign) + " 4 0 0 0;picture 2 5 0 9 0;";
            // 4 ahead and 1 to the side: by 1 0, 2 0, 3 0
            for (int ahead = 1; ahead <= 3; ahead++) {
                SquareAlbum a = Due.album("square 11 11;wall " + (2 + ahead) + " 5;" + end);
                due("side " + sign + " wall " + ahead + " 0", a.hidden(0, 0), 2);
                SquareAlbum b = Due.album("square 11 11;wall " + (2 + ahead) + " " + (5 + sign) + ";" + end);
                due("side " + sign + " wall " + ahead + " 1", b.hidden(0, 0), 1);
            }
            // 6 ahead and 3 to the side: by 1 0, 2 1, 3 1, 4 2, 5 2
            int[] sides = {0, 1, 1, 2, 2};
            for (int ahead = 1; ahead <= 5; ahead++) {
                for (int side = 0; side <= 3; side++) {
                    SquareAlbum a = Due.album("square 11 11;person 8 " + (5 + 3 * sign) + " 4 0 0 0;person " + (2 + ahead)
                            + " " + (5 + side * sign) + " 4 0 0 0;picture 2 5 0 9 0;");
                    due("side " + sign + " one at " + ahead + " " + side, a.hidden(0, 0), side == sides[ahead - 1] ? 3 : 1);
                }
            }
        }
    }

    /** 6 ahead and 3 to the one side, by each way: only a wall 3 ahead and 1 to that side hides. */
    private static void sidesByWays() {
        int[][] ahead = {{1, 0}, {0, 1}, {-1, 0}, {0, -1}};
        int[][] toRight = {{0, 1}, {-1, 0}, {0, -1}, {1, 0}};
        for (int way = 0; way < 4; way++) {
            for (int side = -1; side <= 1; side += 2) {
                for (int walled = -1; walled <= 1; walled++) {
                    String wall = at(ahead[way], toRight[way], 3, walled);
                    String one = at(ahead[way], toRight[way], 5, 2 * side);
                    SquareAlbum a = Due.album("square 12 12;wall " + wall + ";person " + one + " 4 0 0 0;picture 6 6 " + way + " 9 0;");
                    due("way " + way + ", side " + side + ", wall " + walled, a.hidden(0, 0), walled == side ? 2 : 1);
                    due("way " + way + ", side " + side + ", wall " + walled + ": shows", a.shows(0), walled == side ? 0 : 1);
                }
            }
        }
    }

    private static String at(int[] ahead, int[] toRight, int a, int b) {
        return (6 + a * ahead[0] + b * toRight[0]) + " " + (6 + a * ahead[1] + b * toRight[1]);
    }

    private static void hiddenEdges() {
        SquareAlbum a = Due.album("person 2 0 4 5 1 0;picture 0 0 0 3 5;");
        int[][] bad = {{1, 0}, {-1, 0}, {0, 1}, {0, -1}, {Integer.MAX_VALUE, 0}, {0, Integer.MIN_VALUE}};
        for (int[] row : bad) {
            due("hidden(" + row[0] + ", " + row[1] + ")", a.hidden(row[0], row[1]), -1);
        }
        due("hidden(0, 0)", a.hidden(0, 0), 1);
        due("shows(1)", a.shows(1), -1);
        due("shows(-1)", a.shows(-1), -1);
        due("shows(most int)", a.shows(Integer.MAX_VALUE), -1);
        // a path that leaves the square: nothing hides there
        SquareAlbum b = Due.album("square 3 3;person 2 1 4 0 0 0;picture 0 0 0 3 0;");
        due("at the upper edge", b.shows(0), 1);
    }

    private static void viewEdges() {
        SquareAlbum a = Due.album("square 5 4;person 4 3 4 0 99 0;person 3 3 4 99 99 0;");
        due("view", a.view(2, 3, 0, 9, 0), 1);
        due("view of 199", a.view(2, 3, 0, 9, 199), 0);
        due("view of 198", a.view(2, 3, 0, 9, 198), 2);
        due("view of reach 1", a.view(2, 3, 0, 1, 0), 0);
        int[][] bad = {{5, 0, 0, 1, 0}, {0, 4, 0, 1, 0}, {-1, 0, 0, 1, 0}, {0, -1, 0, 1, 0}, {0, 0, 4, 1, 0}, {0, 0, -1, 1, 0},
            {0, 0, 0, 0, 0}, {0, 0, 0, 10, 0}, {0, 0, 0, 1, -1}, {0, 0, 0, 1, 200}, {0, 0, Integer.MAX_VALUE, 1, 0},
            {0, 0, 0, Integer.MIN_VALUE, 0}};
        for (int[] b : bad) {
            due("view" + java.util.Arrays.toString(b), a.view(b[0], b[1], b[2], b[3], b[4]), -1);
        }
    }

    private static void fromWhere() {
        SquareAlbum a = Due.album("square 4 3;wall 1 1;person 2 1 4 0 50 0;person 0 0 4 0 0 0;");
        // one ahead of 2 1: from 2 0 down, 3 1 left, 2 2 up; from 1 1 it would be, but that is a wall
        due("how many", a.from(1, 1, 0, 0), 3);
        due("the first", a.from(1, 1, 0, 1), 4 * 2 + 1);
        due("of the other one", a.from(2, 1, 0, 0), 2);
        due("of the other one the first", a.from(2, 1, 0, 1), 4 * 1 + 2);
        due("nobody", a.from(0, 1, 0, 0), 4 * 11 - 5);
        due("nobody, the first", a.from(0, 1, 0, 1), 0);
        due("both", a.from(3, 1, 0, 0), 0);
        due("both, the first", a.from(3, 1, 0, 1), -9);
        due("when the other is gone", a.from(2, 1, 1, 0), 0);
        due("at 199", a.from(0, 9, 199, 0), 44);
        int[][] bad = {{4, 1, 0, 0}, {-1, 1, 0, 0}, {Integer.MIN_VALUE, 1, 0, 0}, {1, 0, 0, 0}, {1, 10, 0, 0}, {1, 1, -1, 0},
            {1, 1, 200, 0}, {1, 1, 0, 2}, {1, 1, 0, -1}, {256, 1, 0, 0}};
        for (int[] b : bad) {
            due("from" + java.util.Arrays.toString(b), a.from(b[0], b[1], b[2], b[3]), -1);
        }
        SquareAlbum all = Due.album("person 0 0 4 0 0 0;".repeat(8));
        due("all eight", all.from(255, 1, 0, 0), 2);
        due("a ninth", all.from(256, 1, 0, 0), -1);
        due("of nobody one", new SquareAlbum().from(1, 1, 0, 0), -1);
    }
}
