/** Promises 29 to 31 and 33: pictures by kinds, the trace, images; and the constants. */
public final class KindTest {
    private static final Due DUE = new Due();

    public static void main(String[] args) {
        rates();
        rateEdges();
        traceCounts();
        imageEdges();
        imagesKeepAll();
        imagesAreCopies();
        imagesKeepNothingElse();
        constants();
        DUE.end();
    }

    private static void due(String call, long got, long want) {
        DUE.due(call, got, want);
    }

    private static void rates() {
        // three side by side until 20; one who stands for ever in the other picture
        SquareAlbum a = Due.album("square 12 12;person 4 3 4 0 20 0;person 4 4 4 0 20 0;person 4 5 4 0 20 0;person 9 9 4 0 99 0;"
                + "picture 0 4 0 7 15;picture 8 9 0 1 0;picture 0 0 3 2 99;");
        int[][] rates = {{3, 10, 9, 15, 20, -12}, {1, 2, 3, 103, 4, 1}, {0, 2, 0, 0, 4, -99}};
        long[] traces = {1, 11, 101, 1101, 10011, 100001};
        long trace = 0;
        for (int i = 0; i < rates.length; i++) {
            for (int kind = 0; kind < 6; kind++) {
                due("rate(" + kind + ", " + i + ")", a.rate(kind, i), rates[i][kind]);
                trace += traces[kind];
                due("trace behind rate(" + kind + ", " + i + ")", a.trace(), trace);
            }
        }
    }

    private static void rateEdges() {
        SquareAlbum a = Due.album("picture 0 0 0 1 0;");
        int[][] bad = {{6, 0}, {-1, 0}, {0, 1}, {0, -1}, {5, 1}, {Integer.MAX_VALUE, 0}, {3, Integer.MIN_VALUE}};
        for (int[] b : bad) {
            due("rate" + java.util.Arrays.toString(b), a.rate(b[0], b[1]), -1000000);
        }
        due("no trace of that", a.trace(), 0);
        due("of no pictures", new SquareAlbum().rate(0, 0), -1000000);
    }

    private static void traceCounts() {
        SquareAlbum a = Due.album("person 1 0 4 0 9 0;picture 0 0 0 1 0;picture 0 0 0 1 5;");
        a.shows(0);
        a.waits(0);
        a.lost();
        a.told(0, 0);
        a.rule(0);
        a.untrue(0, 0);
        a.all(0, 1, 0);
        due("only rate() leaves a trace", a.trace(), 0);
        long trace = 0;
        for (int k = 0; k < 300; k++) {
            a.rate(5, 0);
            trace += 100001;
        }
        due("the trace goes on", a.trace(), trace);
        a.keep(0);
        a.rate(0, 0);
        a.back(0);
        due("images keep no trace", a.trace(), trace + 1);
        a.square();
        due("reading leaves the trace", a.trace(), trace + 1);
    }

    private static void imageEdges() {
        SquareAlbum a = new SquareAlbum();
        int[] bad = {-1, 2, Integer.MAX_VALUE, Integer.MIN_VALUE};
        for (int image : bad) {
            due("keep(" + image + ")", a.keep(image), -1);
            due("back(" + image + ")", a.back(image), -1);
        }
        due("back(0) of none", a.back(0), -2);
        due("keep(1)", a.keep(1), 0);
        due("back(0) of the other", a.back(0), -2);
        due("back(1)", a.back(1), 0);
    }

    private static void imagesKeepAll() {
        SquareAlbum a = Due.album("picture 0 0 0 1 3;picture 0 0 0 1 8;");
        a.fact(0, 10, 1, 15);
        a.fact(0, 10, 2, 9);
        a.seen(0, 0, 0, 0);
        a.seen(7, 7, 1, 0);
        a.seen(7, 7, 1, 1);
        a.has(0, 1);
        a.has(1, 0);
        due("keep(0)", a.keep(0), 2);
        a.forget();
        a.fact(0, 10, 1, 20);
        a.has(0, 2);
        a.has(1, 1);
        due("keep(1)", a.keep(1), 1);
        due("back(0)", a.back(0), 2);
        due("right(1)", a.right(1), 5);
        due("right(2)", a.right(2), -1);
        due("joined", a.joined(), 3);
        due("hat(0)", a.hat(0), 3);
        due("hat(1)", a.hat(1), 8);
        due("count(3)", a.count(3), 2);
        due("count(4)", a.count(4), 3);
        due("back(1)", a.back(1), 1);
        due("right(1) of 1", a.right(1), 10);
        due("joined of 1", a.joined(), 0);
        due("hat(0) of 1", a.hat(0), 8);
        due("hat(1) of 1", a.hat(1), -9);
        due("an image stays when it has come back", a.back(0), 2);
    }

    private static void imagesAreCopies() {
        SquareAlbum a = Due.album("picture 0 0 0 1 3;");
        a.fact(0, 10, 1, 15);
        a.seen(0, 0, 0, 0);
        a.keep(0);
        a.fact(0, 10, 2, 15);
        a.seen(0, 0, 0, 1);
        a.has(0, 1);
        due("back", a.back(0), 1);
        due("one seen", a.count(4), 1);
        due("nothing told of the hat", a.hat(0), -9);
        a.forget();
        a.fact(0, 0, 1, 9);
        a.seen(5, 5, 5, 5);
        a.seen(5, 5, 5, 6);
        a.has(0, 0);
        due("back again", a.back(0), 1);
        due("as it was kept", a.right(1), 5);
        due("one seen again", a.joined(), 1);
        due("the hat again", a.hat(1), -9);
        a.forget();
        a.fact(0, 0, 1, 9);
        a.seen(5, 5, 5, 5);
        a.keep(1);
        a.back(0);
        a.seen(0, 0, 1, 0);
        due("the one seen is that of image 0", a.joined(), 1);
        a.back(1);
        a.seen(5, 5, 6, 5);
        due("the one seen is that of image 1", a.joined(), 1);
        due("the fact is that of image 1", a.right(1), 9);
        a.forget();
        due("keep anew", a.keep(0), 0);
        due("back to what was kept last", a.back(0), 0);
        due("no facts", a.count(3), 0);
    }

    private static void imagesKeepNothingElse() {
        SquareAlbum a = Due.album("wall 1 1;");
        a.keep(0);
        Due.write(a, "wall 2 2;");
        a.back(0);
        due("the text stays", a.count(5), 9);
        due("square", a.square(), 1);
        due("the image is gone", a.back(0), -2);
        due("the new wall", a.wall(2, 2), 1);
    }

    private static void constants() {
        due("BAD", SquareAlbum.BAD, -1);
        due("STATE", SquareAlbum.STATE, -2);
        due("FULL", SquareAlbum.FULL, -3);
        due("NONE", SquareAlbum.NONE, -9);
        due("NO", SquareAlbum.NO, -1000000);
    }
}
