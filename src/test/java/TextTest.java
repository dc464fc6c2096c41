/** Promises 1 to 7 and 32: a new object, the text, the square that it tells, what is counted. */
public final class TextTest {
    private static final Due DUE = new Due();

    public static void main(String[] args) {
        newObject();
        typing();
        fullText();
        clearing();
        soundTexts();
        faults();
        tooMany();
        faultChangesNothing();
        readAnew();
        readThrice();
        walls();
        people();
        pictures();
        counts();
        DUE.end();
    }

    private static void due(String call, long got, long want) {
        DUE.due(call, got, want);
    }

    private static void newObject() {
        SquareAlbum a = new SquareAlbum();
        int[] counts = {0, 0, 0, 0, 0, 0, 8, 8};
        for (int what = 0; what < counts.length; what++) {
            due("new: count(" + what + ")", a.count(what), counts[what]);
        }
        for (int cell = 0; cell < 64; cell++) {
            due("new: wall of cell " + cell, a.wall(cell % 8, cell / 8), 0);
        }
        due("new: person", a.person(0, 0), -1);
        due("new: picture", a.picture(0, 0), -1);
        due("new: shows", a.shows(0), -1);
        due("new: trace", a.trace(), 0);
        due("new: back(0)", a.back(0), -2);
        due("new: back(1)", a.back(1), -2);
        due("new: forget", a.forget(), 0);
    }

    private static void typing() {
        SquareAlbum a = new SquareAlbum();
        due("type n 0", a.type('a', 0), -1);
        due("type n 9", a.type('a', 9), -1);
        due("type n -1", a.type('a', -1), -1);
        due("type n least int", a.type('a', Integer.MIN_VALUE), -1);
        due("type n most int", a.type('a', Integer.MAX_VALUE), -1);
        due("nothing typed", a.count(5), 0);
        // "wall 2 1" and ";": the highest byte first, and what is above the lowest n is not taken
        due("type 8", a.type(0x77616c6c20322031L, 8), 8);
        due("type 1 of more", a.type(0x123456789abcde3bL, 1), 9);
        due("square", a.square(), 1);
        due("wall(2, 1)", a.wall(2, 1), 1);
        due("wall(1, 2)", a.wall(1, 2), 0);
        for (int n = 1; n <= 8; n++) {
            SquareAlbum b = new SquareAlbum();
            due("type -1, " + n, b.type(-1L, n), n);
            due("bytes 255", b.square(), -10);
        }
    }

    private static void fullText() {
        SquareAlbum a = new SquareAlbum();
        for (int k = 1; k <= 49; k++) {
            due("type " + k, a.type(0x2020202020202020L, 8), 8L * k);
        }
        due("type 7", a.type(0x20202020202020L, 7), 399);
        due("type 2 of 1", a.type(0x3b3b, 2), -3);
        due("type 8 of 1", a.type(0x3b3b, 8), -3);
        due("BAD ahead of FULL", a.type(0x3b3b, 9), -1);
        due("count(5)", a.count(5), 399);
        due("type the last", a.type(';', 1), 400);
        due("type on a full text", a.type(';', 1), -3);
        due("BAD on a full text", a.type(';', 0), -1);
        due("count(5) full", a.count(5), 400);
        due("fault at the last byte", a.square(), -10 - 399);
        due("clear", a.clear(), 400);
        due("type behind clear", a.type(';', 1), 1);
    }

    private static void clearing() {
        SquareAlbum a = new SquareAlbum();
        due("clear of none", a.clear(), 0);
        Due.write(a, "wall 1 1;");
        due("clear", a.clear(), 9);
        due("count(5)", a.count(5), 0);
        due("clear again", a.clear(), 0);
        due("square of an empty text", a.square(), 0);
        due("the wall is not told", a.wall(1, 1), 0);
        Due.write(a, "wall 1 1;");
        due("square", a.square(), 1);
        due("the text is empty", a.clear(), 0);
        due("clear leaves the square", a.wall(1, 1), 1);
    }

    private static void sound(String text, int items) {
        due("\"" + text + "\"", Due.tell(new SquareAlbum(), text), items);
    }

    private static void soundTexts() {
        sound("", 0);
        sound("    ", 0);
        sound("square 3 3;", 1);
        sound("square 12 12;wall 11 11;", 2);
        sound("  square  3  12  ;  wall  2  11  ;  ", 2);
        sound("wall 7 7;wall 0 0;wall 7 0;wall 0 7;", 4);
        sound("person 7 7 4 99 99 9;", 1);
        sound("person 0 0 0 0 0 0;", 1);
        sound("picture 7 7 3 9 99;", 1);
        sound("picture 0 0 0 1 0;", 1);
        sound("picture 0 0 0 1 0;person 0 0 0 0 0 0;wall 0 0;", 3);
        sound("square 10 11;person 9 10 1 10 10 0;", 2);
        sound("wall 1 1;wall 1 1;wall 1 1;", 3);
    }

    private static void fault(String text, int place) {
        SquareAlbum a = new SquareAlbum();
        due("\"" + text + "\"", Due.tell(a, text), -10 - place);
        due("\"" + text + "\" stays", a.clear(), text.length());
    }

    private static void faults() {
        fault(";", 0);
        fault("  ;", 2);
        fault("5;", 0);
        fault("square", 6);
        fault("square ", 7);
        fault("square 3", 8);
        fault("square 3 3", 10);
        fault("square 3 3  ", 12);
        fault("square 2 3;", 7);
        fault("square 13 3;", 7);
        fault("square 3 2;", 9);
        fault("square 3 13;", 9);
        fault("square 3;", 8);
        fault("square ;", 7);
        fault("square 3 3 3;", 11);
        fault("square 3 3;square 3 3;", 11);
        fault("square 3 3;;", 11);
        fault("wall 0 0;square 3 3;", 9);
        fault("square 3 4;wall 3 0;", 16);
        fault("square 3 4;wall 0 4;", 18);
        fault("square 4 3;person 0 3 0 0 0 0;", 20);
        fault("square 4 3;picture 4 0 0 1 0;", 19);
        fault("wall wall 0 0;", 5);
        fault("wall 0 0 wall 0 0;", 9);
        fault("person 8 0 0 0 0 0;", 7);
        fault("person 0 8 0 0 0 0;", 9);
        fault("person 0 0 5 0 0 0;", 11);
        fault("person 0 0 0 100 0 0;", 13);
        fault("person 0 0 0 0 100 0;", 15);
        fault("person 0 0 0 0 0 10;", 17);
        fault("person 0 0 0 0 0;", 16);
        fault("person 0 0 0 0 0 0 0;", 19);
        fault("picture 8 0 0 1 0;", 8);
        fault("picture 0 8 0 1 0;", 10);
        fault("picture 0 0 4 1 0;", 12);
        fault("picture 0 0 0 0 0;", 14);
        fault("picture 0 0 0 10 0;", 14);
        fault("picture 0 0 0 1 100;", 16);
        fault("picture 0 0 0 1;", 15);
        fault("picture 0 0 0 1 0 0;", 18);
        wrongTokens();
    }

    private static void wrongTokens() {
        fault("walls 0 0;", 0);
        fault("wal 0 0;", 0);
        fault("wal", 0);
        fault("wall 0 0;wal", 9);
        fault("Wall 0 0;", 0);
        fault("wAll 0 0;", 0);
        fault("wallwall 0 0;", 0);
        fault("aawall 0 0;", 0);
        fault("abcdefghwall 0 0;", 0);
        fault("picturepicture 0 0 0 1 0;", 0);
        fault("abcdefghipicture 0 0 0 1 0;", 0);
        fault("wall -1 0;", 5);
        fault("wall 0 00;", 7);
        fault("wall 01 0;", 5);
        fault("wall 0 007;", 7);
        fault("wall 100 0;", 5);
        fault("wall 4294967296 0;", 5);
        fault("wall 18446744073709551616 0;", 5);
        fault("wall 99999999999999999999999999 0;", 5);
        fault("wall 0 0,", 8);
        fault("wall 0\t0;", 6);
        fault("wall 0" + (char) 0 + "0;", 6);
        fault("wall 0 " + (char) 0xb0 + ";", 7);
        fault((char) 0xf7 + "all 0 0;", 0);
        fault("wall 0 0;" + (char) 255, 9);
        fault("`all 0 0;", 0);
        fault("{all 0 0;", 0);
        fault("wall / 0;", 5);
        fault("wall : 0;", 5);
        // the first fault counts, of whatever sort it is
        fault("wall 0 9;walls", 7);
        fault("wall ? 9;", 5);
    }

    private static void tooMany() {
        String person = "person 0 0 0 0 0 0;";
        sound(person.repeat(8), 8);
        fault(person.repeat(9), 152);
        fault(person.repeat(8) + "person", 152);
        String picture = "picture 0 0 0 1 0;";
        sound(picture.repeat(10), 10);
        fault(picture.repeat(11), 180);
        sound(person.repeat(8) + picture.repeat(10) + "wall 0 0;", 19);
        sound("wall 1 1;".repeat(44), 44);
    }

    private static void faultChangesNothing() {
        SquareAlbum a = Due.album("square 5 6;wall 1 2;person 3 4 1 2 3 4;picture 0 1 2 3 4;");
        a.has(0, 1);
        a.fact(0, 1, 1, 2);
        a.keep(0);
        String text = "square 3 3;wall 0 0;wall 2 2;person 0 0 0 0 0 0;person 0 0 0 0 0;";
        due("fault", Due.tell(a, text), -10 - 64);
        due("fault again", a.square(), -10 - 64);
        int[] counts = {1, 1, 1, 1, 0, text.length(), 5, 6};
        for (int what = 0; what < counts.length; what++) {
            due("behind a fault: count(" + what + ")", a.count(what), counts[what]);
        }
        due("wall stays", a.wall(1, 2), 1);
        due("no new wall", a.wall(0, 0), 0);
        due("person stays", a.person(0, 0), 3);
        due("picture stays", a.picture(0, 3), 3);
        due("hat stays", a.has(0, 1), 1);
        due("image stays", a.back(0), 1);
    }

    private static void readAnew() {
        SquareAlbum a = Due.album("square 5 6;wall 1 2;person 3 4 1 2 3 4;picture 0 1 2 3 4;");
        a.has(0, 1);
        a.fact(0, 1, 1, 2);
        a.seen(4, 5, 0, 0);
        a.keep(0);
        a.keep(1);
        a.rate(4, 0);
        due("read anew", Due.tell(a, "picture 0 0 0 1 0;picture 0 0 0 1 5;"), 2);
        int[] counts = {0, 2, 0, 1, 1, 0, 8, 8};
        for (int what = 0; what < counts.length; what++) {
            due("read anew: count(" + what + ")", a.count(what), counts[what]);
        }
        due("walls are gone", a.wall(1, 2), 0);
        due("nothing is told of the hat", a.hat(0), -9);
        due("image 0 is gone", a.back(0), -2);
        due("image 1 is gone", a.back(1), -2);
        due("has of the first", a.has(0, 0), 2);
        due("the trace stays", a.trace(), 10011);
        due("an empty text", a.square(), 0);
        due("no pictures", a.count(1), 0);
        due("facts and those seen stay", a.forget(), 2);
    }

    /** What an earlier text told must not come back, whichever one it was. */
    private static void readThrice() {
        String first = "square 5 6;wall 0 0;wall 4 5;person 1 1 4 0 9 0;person 2 1 4 0 9 0;picture 0 1 0 4 0;";
        SquareAlbum a = Due.album(first);
        due("first: on", a.on(1, 1, 3), 1);
        due("second", Due.tell(a, "square 9 10;wall 0 0;person 8 8 4 0 9 0;picture 0 1 0 4 0;"), 4);
        due("second: on", a.on(8, 8, 3), 1);
        due("third", Due.tell(a, "person 3 3 4 0 9 0;"), 1);
        int[] counts = {1, 0, 0, 0, 0, 0, 8, 8};
        for (int what = 0; what < counts.length; what++) {
            due("third: count(" + what + ")", a.count(what), counts[what]);
        }
        for (int cell = 0; cell < 64; cell++) {
            due("third: wall of " + cell, a.wall(cell % 8, cell / 8), 0);
            due("third: on " + cell, a.on(cell % 8, cell / 8, 3), cell == 27 ? 1 : 0);
        }
        due("the fourth is as the first", Due.tell(a, first), 6);
        due("fourth: count(2)", a.count(2), 2);
        due("fourth: shows(0)", a.shows(0), 1);
        due("fourth: where", a.where(1, 3), 7);
    }

    private static void walls() {
        SquareAlbum a = Due.album("square 4 3;wall 3 0;wall 0 2;wall 3 0;");
        for (int y = 0; y < 3; y++) {
            for (int x = 0; x < 4; x++) {
                due("wall(" + x + ", " + y + ")", a.wall(x, y), x == 3 && y == 0 || x == 0 && y == 2 ? 1 : 0);
            }
        }
        due("walls counted once", a.count(2), 2);
        int[][] beyond = {{4, 0}, {-1, 1}, {0, 3}, {0, -1}, {Integer.MAX_VALUE, Integer.MAX_VALUE}, {Integer.MIN_VALUE, 0}};
        for (int[] cell : beyond) {
            due("wall(" + cell[0] + ", " + cell[1] + ")", a.wall(cell[0], cell[1]), -1);
        }
    }

    private static void people() {
        SquareAlbum a = Due.album("square 12 12;person 11 10 4 9 8 7;person 1 2 3 4 5 6;");
        int[][] rows = {{11, 10, 4, 9, 8, 7}, {1, 2, 3, 4, 5, 6}};
        for (int p = 0; p < 2; p++) {
            for (int what = 0; what < 6; what++) {
                due("person(" + p + ", " + what + ")", a.person(p, what), rows[p][what]);
            }
            due("person(" + p + ", 6)", a.person(p, 6), -1);
            due("person(" + p + ", -1)", a.person(p, -1), -1);
        }
        due("person(2, 0)", a.person(2, 0), -1);
        due("person(-1, 0)", a.person(-1, 0), -1);
        due("person(most int, 0)", a.person(Integer.MAX_VALUE, 0), -1);
    }

    private static void pictures() {
        SquareAlbum a = Due.album("square 12 12;picture 11 10 3 9 8;picture 1 2 0 4 5;");
        int[][] rows = {{11, 10, 3, 9, 8}, {1, 2, 0, 4, 5}};
        for (int i = 0; i < 2; i++) {
            for (int what = 0; what < 5; what++) {
                due("picture(" + i + ", " + what + ")", a.picture(i, what), rows[i][what]);
            }
            due("picture(" + i + ", 5)", a.picture(i, 5), -1);
            due("picture(" + i + ", -1)", a.picture(i, -1), -1);
        }
        due("picture(2, 0)", a.picture(2, 0), -1);
        due("picture(-1, 0)", a.picture(-1, 0), -1);
        due("picture(least int, 0)", a.picture(Integer.MIN_VALUE, 0), -1);
    }

    private static void counts() {
        SquareAlbum a = Due.album("square 9 4;wall 0 0;wall 1 0;wall 1 0;wall 2 0;person 0 1 0 0 0 0;"
                + "picture 0 0 0 1 0;picture 0 0 0 1 0;");
        a.fact(0, 0, 1, 0);
        a.fact(0, 0, 2, 0);
        a.fact(0, 0, 2, 0);
        a.fact(0, 0, 3, 0);
        a.seen(0, 0, 0, 0);
        a.seen(0, 0, 0, 0);
        Due.write(a, "abcdefg");
        int[] counts = {1, 2, 3, 4, 2, 7, 9, 4};
        for (int what = 0; what < counts.length; what++) {
            due("count(" + what + ")", a.count(what), counts[what]);
        }
        due("count(8)", a.count(8), -1);
        due("count(-1)", a.count(-1), -1);
        due("count(most int)", a.count(Integer.MAX_VALUE), -1);
        due("count(least int)", a.count(Integer.MIN_VALUE), -1);
    }
}
