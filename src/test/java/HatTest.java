/** Promises 20 to 23: a hat, who was near, an empty square put together. */
public final class HatTest {
    private static final Due DUE = new Due();

    public static void main(String[] args) {
        hasEdges();
        withAndWithout();
        nearEdges();
        nearPeople();
        nearSeconds();
        emptyOfOne();
        emptyOfSeveral();
        fewestAheadOfLeast();
        emptyOfNoCells();
        emptyEdges();
        DUE.end();
    }

    private static void due(String call, long got, long want) {
        DUE.due(call, got, want);
    }

    private static void hasEdges() {
        SquareAlbum a = Due.album("picture 0 0 0 1 5;picture 0 0 0 1 6;");
        int[][] bad = {{2, 0}, {-1, 0}, {0, 3}, {0, -1}, {Integer.MAX_VALUE, 0}, {0, Integer.MIN_VALUE}};
        for (int[] b : bad) {
            due("has" + java.util.Arrays.toString(b), a.has(b[0], b[1]), -1);
        }
        int[] tells = {1, 0, 2, 0, 1, 1, 2, 2};
        int before = 2;
        for (int is : tells) {
            due("has(1, " + is + ")", a.has(1, is), before);
            before = is;
        }
        due("the other", a.has(0, 2), 2);
    }

    private static void dueHat(String of, SquareAlbum a, int with, int without) {
        due(of + ": hat(0)", a.hat(0), with);
        due(of + ": hat(1)", a.hat(1), without);
    }

    private static void withAndWithout() {
        SquareAlbum a = Due.album("picture 0 0 0 1 50;picture 0 0 0 1 10;picture 0 0 0 1 30;picture 0 0 0 1 30;"
                + "picture 0 0 0 1 0;picture 0 0 0 1 99;");
        dueHat("nothing told", a, -9, -9);
        due("hat(2)", a.hat(2), -1);
        due("hat(-1)", a.hat(-1), -1);
        a.has(0, 0);
        dueHat("not at 50", a, -9, 50);
        a.has(4, 0);
        dueHat("not at 0, with none that has it", a, -9, 0);
        a.has(4, 1);
        dueHat("at 0", a, 0, 50);
        a.has(2, 0);
        dueHat("not at 30", a, 0, 30);
        a.has(3, 1);
        dueHat("at 30 and not at 30", a, 30, 50);
        a.has(1, 1);
        dueHat("the greatest that has it", a, 30, 50);
        a.has(1, 0);
        dueHat("not ahead of it counts not", a, 30, 50);
        a.has(5, 0);
        dueHat("the least above", a, 30, 50);
        a.has(5, 1);
        dueHat("at 99", a, 99, -9);
        due("near without WITHOUT", a.near(0, 0, 0), -2);
    }

    private static void nearEdges() {
        SquareAlbum a = Due.album("square 5 4;picture 0 0 0 1 5;picture 0 0 0 1 6;");
        due("nothing told", a.near(0, 0, 0), -2);
        a.has(1, 0);
        due("only WITHOUT", a.near(0, 0, 0), -2);
        due("BAD ahead of STATE", a.near(0, 0, 12), -1);
        a.has(1, 2);
        a.has(0, 1);
        due("only WITH", a.near(0, 0, 0), -2);
        a.has(1, 0);
        due("both", a.near(4, 3, 11), 0);
        int[][] bad = {{5, 0, 0}, {0, 4, 0}, {-1, 0, 0}, {0, -1, 0}, {0, 0, 12}, {0, 0, -1}, {0, 0, Integer.MAX_VALUE},
            {Integer.MIN_VALUE, 0, 0}};
        for (int[] b : bad) {
            due("near" + java.util.Arrays.toString(b), a.near(b[0], b[1], b[2]), -1);
        }
    }

    private static void nearPeople() {
        // a stands 2 right, b 2 left, c 2 down, d 2 up, e 2 and 2, f 2 and 3 from 5 5
        SquareAlbum a = Due.album("square 12 12;person 7 5 4 0 99 0;person 3 5 4 0 99 0;person 5 7 4 0 99 0;person 5 3 4 0 99 0;"
                + "person 7 7 4 0 99 0;person 3 8 4 0 99 0;person 11 0 4 0 99 0;person 5 5 4 0 99 0;"
                + "picture 0 0 0 1 5;picture 0 0 0 1 6;");
        a.has(0, 1);
        a.has(1, 0);
        due("near 0", a.near(5, 5, 0), 128);
        due("near 1", a.near(5, 5, 1), 128);
        due("near 2", a.near(5, 5, 2), 128 + 31);
        due("near 3", a.near(5, 5, 3), 128 + 63);
        due("near 5", a.near(5, 5, 5), 128 + 63);
        due("near 6", a.near(5, 5, 6), 255);
        due("the corner", a.near(11, 0, 0), 64);
        due("from the corner by 11", a.near(0, 11, 11), 255);
        due("from the corner by 10", a.near(0, 11, 10), 255 - 64);
        due("another corner", a.near(0, 0, 4), 0);
        SquareAlbum b = Due.album("person 0 0 4 0 99 0;person 7 7 4 0 99 0;picture 0 0 0 1 5;picture 0 0 0 1 6;");
        b.has(0, 1);
        b.has(1, 0);
        due("the first cell by 1", b.near(1, 1, 1), 1);
        due("the first cell by 11", b.near(0, 0, 11), 3);
        due("the last cell by 1", b.near(6, 6, 1), 2);
    }

    private static void nearSeconds() {
        SquareAlbum a = Due.album("square 12 3;person 0 1 0 0 11 0;person 11 1 2 0 11 0;person 5 2 4 4 0 0;person 5 2 4 7 0 0;"
                + "person 5 2 4 3 0 0;person 5 2 4 8 0 0;picture 0 0 0 1 4;picture 0 0 0 1 7;");
        a.has(0, 1);
        a.has(1, 0);
        due("from WITH to WITHOUT", a.near(5, 2, 0), 4 + 8);
        due("who passed in between", a.near(5, 1, 0), 1 + 2);
        due("who was there later", a.near(8, 1, 0), 0);
        due("at WITH", a.near(4, 1, 0), 1 + 2);
        due("ahead of WITH", a.near(3, 1, 0), 0);
        due("at WITHOUT the other way", a.near(7, 1, 0), 1 + 2);
    }

    private static void emptyOfOne() {
        SquareAlbum a = Due.album("square 5 5;person 4 2 4 0 0 0;picture 0 2 0 4 0;picture 0 2 0 4 1;picture 0 2 0 4 2;"
                + "picture 0 2 0 3 0;picture 0 2 1 4 0;picture 1 2 0 4 2;");
        due("empty(0, 0): without it by 1", a.empty(0, 0), 2);
        due("empty(1, 0)", a.empty(1, 0), 2);
        due("empty(2, 0): the least", a.empty(2, 0), 2);
        due("empty(0, 1)", a.empty(0, 1), 0);
        due("another reach", a.empty(3, 0), 8);
        due("another way", a.empty(4, 0), 16);
        due("another cell", a.empty(5, 0), 32);
    }

    private static void emptyOfSeveral() {
        // one goes up in the column ahead, second by second; another stands far to the side in the last
        SquareAlbum a = Due.album("square 3 9;person 1 1 4 0 0 0;person 0 0 4 1 0 0;person 2 0 4 2 0 0;picture 1 2 3 2 0;"
                + "picture 1 2 3 2 1;picture 1 2 3 2 2;");
        due("0 hides three, 1 and 2 have one each", a.empty(0, 0), 6);
        due("never", a.empty(0, 1), 0);
        SquareAlbum b = Due.album("square 3 9;person 0 0 4 0 9 0;person 1 0 4 1 0 0;person 1 1 4 2 0 0;picture 1 2 3 2 0;"
                + "picture 1 2 3 2 1;picture 1 2 3 2 2;");
        due("one stands there always", b.empty(0, 0), -9);
        due("a cell that is never empty", b.empty(2, 1), 1);
        SquareAlbum c = Due.album("square 3 9;wall 1 1;picture 1 2 3 2 0;picture 1 2 3 1 0;");
        due("behind a wall", c.empty(0, 0), -9);
        due("three behind a wall, which is none itself", c.empty(0, 1), 3);
        due("a wall alone", c.empty(1, 0), 0);
        due("a wall alone: never", c.empty(1, 1), 0);
        SquareAlbum d = Due.album("person 0 4 4 0 0 0;person 4 4 4 1 0 0;person 2 4 4 2 0 0;picture 2 2 1 2 2;picture 2 2 1 2 2;"
                + "picture 2 2 1 2 5;picture 2 2 1 2 1;picture 2 2 1 2 0;");
        due("of several the least", d.empty(4, 0), 4);
    }

    /** Fewer go ahead of lesser bits. */
    private static void fewestAheadOfLeast() {
        SquareAlbum a = Due.album("person 1 4 4 0 0 0;person 3 4 4 1 0 0;picture 2 2 1 2 0;picture 2 2 1 2 1;picture 2 2 1 2 7;"
                + "picture 2 2 1 2 0;picture 2 2 1 2 8;");
        due("one is fewer than two", a.empty(0, 0), 4);
        SquareAlbum b = Due.album("person 1 4 4 0 0 0;person 3 4 4 1 0 0;person 2 4 4 2 0 0;person 3 4 4 2 0 0;picture 2 2 1 2 2;"
                + "picture 2 2 1 2 1;picture 2 2 1 2 0;picture 2 2 1 2 1;");
        due("shows(1)", b.shows(1), 2);
        due("0 and 1 do not do, 0 and 2 do", b.empty(0, 0), 5);
        due("by the last", b.empty(3, 0), 5);
    }

    private static void emptyOfNoCells() {
        SquareAlbum a = Due.album("square 3 3;picture 0 0 2 9 0;picture 0 0 3 1 0;picture 2 1 0 9 0;");
        for (int i = 0; i < 3; i++) {
            due("no cell: empty(" + i + ", 0)", a.empty(i, 0), 0);
            due("no cell: empty(" + i + ", 1)", a.empty(i, 1), 0);
        }
    }

    private static void emptyEdges() {
        SquareAlbum a = Due.album("picture 0 0 0 1 0;");
        int[][] bad = {{1, 0}, {-1, 0}, {0, 2}, {0, -1}, {Integer.MIN_VALUE, 0}, {0, Integer.MAX_VALUE}};
        for (int[] b : bad) {
            due("empty" + java.util.Arrays.toString(b), a.empty(b[0], b[1]), -1);
        }
        due("empty(0, 0)", a.empty(0, 0), 1);
    }
}
