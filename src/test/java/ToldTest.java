/** Promises 24 to 28: waits, what is lost, what can be told of one, how near faces may be shown, what is not true. */
public final class ToldTest {
    private static final Due DUE = new Due();

    public static void main(String[] args) {
        waiting();
        waitEdges();
        losing();
        telling();
        tellingEdges();
        ruling();
        untrue();
        DUE.end();
    }

    private static void due(String call, long got, long want) {
        DUE.due(call, got, want);
    }

    private static void waiting() {
        SquareAlbum a = Due.album("square 12 3;person 2 1 4 10 5 0;person 3 1 4 16 3 0;picture 0 1 0 9 10;picture 0 1 0 9 9;"
                + "picture 0 1 0 9 15;picture 0 1 0 9 20;picture 0 1 0 2 12;");
        int[] waits = {10, 0, 5, 0, 4};
        for (int i = 0; i < waits.length; i++) {
            due("waits(" + i + ")", a.waits(i), waits[i]);
        }
        due("lost", a.lost(), 19);
        due("waits(5)", a.waits(5), -1);
        due("waits(-1)", a.waits(-1), -1);
        due("waits(most int)", a.waits(Integer.MAX_VALUE), -1);
    }

    /** 99 later is the last that counts. */
    private static void waitEdges() {
        SquareAlbum a = Due.album("person 1 0 4 0 98 0;picture 0 0 0 1 0;");
        due("99 later", a.waits(0), 99);
        SquareAlbum b = Due.album("person 1 0 4 0 99 0;picture 0 0 0 1 0;picture 0 0 0 1 1;");
        due("100 later is too late", b.waits(0), -9);
        due("99 later of 1", b.waits(1), 99);
        due("lost without NONE", b.lost(), 99);
        SquareAlbum c = Due.album("person 1 0 4 99 99 0;picture 0 0 0 1 99;");
        due("from 99 on", c.waits(0), -9);
        due("lost of NONE", c.lost(), 0);
        SquareAlbum d = Due.album("wall 1 0;person 0 0 0 0 9 0;person 7 1 2 0 7 0;picture 3 0 2 3 1;picture 0 1 0 9 0;");
        due("nobody is on a wall", d.waits(0), 0);
        due("one who comes near by 6, and another who goes away by 7", d.waits(1), 8);
    }

    private static void losing() {
        due("lost of no pictures", new SquareAlbum().lost(), 0);
        SquareAlbum a = Due.album("person 1 0 4 0 98 0;" + "picture 0 0 0 1 0;".repeat(10));
        due("lost of ten", a.lost(), 990);
    }

    private static void telling() {
        // from 0 4 to the right: 0, 1, 2 side by side at other seconds; 3 is hidden behind 1
        SquareAlbum a = Due.album("square 12 12;person 4 3 4 0 50 0;person 4 4 4 10 30 0;person 4 5 4 20 50 0;person 6 4 4 0 40 0;"
                + "person 0 0 4 0 0 0;picture 0 4 0 9 30;picture 0 4 0 9 5;picture 0 4 0 9 15;picture 0 4 0 9 45;"
                + "picture 0 4 0 9 60;picture 0 4 0 9 99;");
        int[] shows = {7, 9, 3, 5, 4, 0};
        for (int i = 0; i < shows.length; i++) {
            due("shows(" + i + ")", a.shows(i), shows[i]);
        }
        int[][] told = {{4, 1, 5, 45}, {2, 0, 15, 30}, {3, 0, 30, 60}, {1, 0, 5, 5}, {0, -9, -9, -9}};
        for (int p = 0; p < told.length; p++) {
            for (int what = 0; what < 4; what++) {
                due("told(" + p + ", " + what + ")", a.told(p, what), told[p][what]);
            }
        }
        SquareAlbum b = Due.album("person 1 0 4 0 9 0;person 5 5 4 0 9 0;picture 0 0 0 1 0;picture 0 0 0 1 9;picture 6 5 2 1 3;");
        due("alone in both", b.told(0, 0), 2);
        due("with nobody", b.told(0, 1), -9);
        due("first", b.told(0, 2), 0);
        due("last", b.told(0, 3), 9);
    }

    private static void tellingEdges() {
        SquareAlbum a = Due.album("person 1 0 4 0 9 0;picture 0 0 0 1 0;");
        int[][] bad = {{1, 0}, {-1, 0}, {0, 4}, {0, -1}, {Integer.MAX_VALUE, 0}, {0, Integer.MIN_VALUE}};
        for (int[] b : bad) {
            due("told" + java.util.Arrays.toString(b), a.told(b[0], b[1]), -1);
        }
        due("of nobody", new SquareAlbum().told(0, 0), -1);
        due("with oneself is nobody", a.told(0, 1), -9);
    }

    private static void ruling() {
        due("nobody: rule(0)", new SquareAlbum().rule(0), 9);
        due("nobody: rule(10)", new SquareAlbum().rule(10), 9);
        due("rule(11)", new SquareAlbum().rule(11), -1);
        due("rule(-1)", new SquareAlbum().rule(-1), -1);
        due("rule(most int)", new SquareAlbum().rule(Integer.MAX_VALUE), -1);
        due("rule(least int)", new SquareAlbum().rule(Integer.MIN_VALUE), -1);
        // one is 2, 4, 4 and 9 ahead
        SquareAlbum a = Due.album("square 12 12;person 10 5 4 0 9 0;picture 8 5 0 2 0;picture 6 5 0 9 0;picture 10 1 1 5 0;"
                + "picture 1 5 0 9 0;picture 2 5 0 7 0;");
        int[] rules = {1, 3, 3, 8, 9, 9};
        for (int k = 0; k < rules.length; k++) {
            due("rule(" + k + ")", a.rule(k), rules[k]);
        }
        // another one is near in two, and hides the first in one of them
        SquareAlbum b = Due.album("square 12 12;person 10 5 4 0 9 0;person 9 5 4 0 9 0;picture 8 5 0 9 0;picture 9 4 1 9 0;"
                + "picture 9 6 3 9 0;picture 11 5 2 1 0;");
        due("rule(0)", b.rule(0), 0);
        due("rule(1)", b.rule(1), 0);
        due("rule(2)", b.rule(2), 0);
        due("rule(3)", b.rule(3), 9);
        SquareAlbum c = Due.album("person 1 0 4 0 0 0;" + "picture 0 0 0 1 0;".repeat(10));
        due("ten: rule(9)", c.rule(9), 0);
        due("ten: rule(10)", c.rule(10), 9);
    }

    private static void untrue() {
        SquareAlbum a = Due.album("square 12 12;person 4 3 4 0 50 0;person 4 4 4 0 30 0;person 0 0 4 0 0 0;picture 0 4 0 9 0;");
        int[] wants = {2, 1, 1, 0, 3, 2, 2, 1};
        for (int set = 0; set < 8; set++) {
            due("untrue(0, " + set + ")", a.untrue(0, set), wants[set]);
        }
        int[][] bad = {{0, 8}, {0, -1}, {1, 0}, {-1, 0}, {0, Integer.MIN_VALUE}, {0, Integer.MAX_VALUE}, {Integer.MAX_VALUE, 0}};
        for (int[] b : bad) {
            due("untrue" + java.util.Arrays.toString(b), a.untrue(b[0], b[1]), -1);
        }
        SquareAlbum b = Due.album("person 0 0 4 0 0 0;".repeat(8) + "picture 1 0 2 1 0;");
        due("all eight are shown", b.untrue(0, 0), 8);
        due("all eight are told", b.untrue(0, 255), 0);
        due("a ninth", b.untrue(0, 256), -1);
    }
}
