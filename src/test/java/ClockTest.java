/** Promises 14 to 19: clocks put right, sightings joined, how many there were in all. */
public final class ClockTest {
    private static final Due DUE = new Due();

    public static void main(String[] args) {
        factEdges();
        noFacts();
        rightOfFew();
        leastOfSeveral();
        beyondTwenty();
        seenEdges();
        joining();
        joiningInTheMiddle();
        joiningAnew();
        forgetting();
        allInAll();
        DUE.end();
    }

    private static void due(String call, long got, long want) {
        DUE.due(call, got, want);
    }

    private static void dueRight(String of, SquareAlbum a, int... want) {
        for (int what = 0; what <= 3; what++) {
            due(of + ": right(" + what + ")", a.right(what), want[what]);
        }
    }

    private static void factEdges() {
        SquareAlbum a = new SquareAlbum();
        int[][] bad = {{0, 0, 0, 0}, {3, 1, 3, 2}, {-1, 0, 1, 0}, {4, 0, 1, 0}, {0, 0, -1, 0}, {0, 0, 4, 0}, {0, -1, 1, 0},
            {0, 100, 1, 0}, {0, 0, 1, -1}, {0, 0, 1, 100}, {Integer.MAX_VALUE, 0, 1, 0}, {0, 0, 1, Integer.MIN_VALUE}};
        for (int[] b : bad) {
            due("fact" + java.util.Arrays.toString(b), a.fact(b[0], b[1], b[2], b[3]), -1);
        }
        due("no fact", a.count(3), 0);
        for (int k = 1; k <= 20; k++) {
            due("fact " + k, a.fact(0, 99, 3, 99), k);
        }
        due("a fact too many", a.fact(0, 0, 1, 0), -3);
        due("BAD ahead of FULL", a.fact(0, 0, 0, 0), -1);
        due("count(3)", a.count(3), 20);
        dueRight("twenty", a, 0, -20, -20, 0);
    }

    private static void noFacts() {
        SquareAlbum a = new SquareAlbum();
        dueRight("none", a, 0, -20, -20, -20);
        int[] bad = {-1, 4, Integer.MIN_VALUE, Integer.MAX_VALUE};
        for (int what : bad) {
            due("right(" + what + ")", a.right(what), -1000000);
        }
    }

    private static void rightOfFew() {
        SquareAlbum a = new SquareAlbum();
        a.fact(0, 10, 1, 13);
        dueRight("1 is 3 ahead", a, 0, 3, -20, -20);
        a.fact(2, 20, 1, 13);
        dueRight("2 is 7 ahead of 1", a, 0, 3, 10, -20);
        a.fact(3, 9, 2, 30);
        dueRight("2 is 21 ahead of 3", a, 0, 3, 10, -11);
        a.fact(1, 50, 0, 46);
        dueRight("1 is 4 ahead, too", a, 1, 3, 10, -11);
        a.fact(1, 50, 0, 46);
        dueRight("4 by more", a, 1, 4, 11, -10);
        a.fact(3, 0, 0, 11);
        dueRight("3 is 11 back: one of three must go", a, 2, 3, 10, -11);
        a.fact(3, 1, 1, 16);
        dueRight("1 is 15 ahead of 3: 4 and -11 hold most, and 10 or 11 of clock 2", a, 2, 4, 10, -11);
    }

    private static void leastOfSeveral() {
        SquareAlbum a = new SquareAlbum();
        a.fact(0, 10, 1, 15);
        a.fact(0, 10, 1, 5);
        dueRight("5 or -5", a, 1, -5, -20, -20);
        SquareAlbum b = new SquareAlbum();
        b.fact(0, 10, 2, 15);
        b.fact(0, 10, 2, 5);
        b.fact(0, 30, 3, 10);
        b.fact(3, 10, 0, 11);
        dueRight("clocks 2 and 3", b, 2, -20, -5, -20);
        SquareAlbum c = new SquareAlbum();
        c.fact(1, 10, 2, 15);
        dueRight("2 is 5 ahead of 1", c, 0, -20, -15, -20);
        SquareAlbum d = new SquareAlbum();
        d.fact(2, 10, 3, 5);
        dueRight("3 is 5 back of 2", d, 0, -20, -15, -20);
    }

    private static void beyondTwenty() {
        SquareAlbum a = new SquareAlbum();
        a.fact(0, 0, 1, 21);
        dueRight("21", a, 1, -20, -20, -20);
        a.fact(0, 0, 2, 20);
        dueRight("20", a, 1, -20, 20, -20);
        a.fact(2, 99, 3, 59);
        dueRight("40 apart", a, 1, -20, 20, -20);
        a.fact(2, 99, 3, 0);
        dueRight("99 apart", a, 2, -20, 20, -20);
        for (int clock = 1; clock <= 3; clock++) {
            SquareAlbum c = new SquareAlbum();
            c.fact(0, 0, clock, 20);
            due("clock " + clock + " is 20 ahead", c.right(clock), 20);
            due("and that holds", c.right(0), 0);
            c.fact(clock, 70, 0, 90);
            c.fact(clock, 70, 0, 90);
            due("clock " + clock + " is 20 back", c.right(clock), -20);
            due("and one does not hold", c.right(0), 1);
        }
        SquareAlbum b = new SquareAlbum();
        b.fact(1, 41, 2, 0);
        dueRight("-41 apart", b, 1, -20, -20, -20);
        b.fact(1, 0, 2, 40);
        dueRight("40 ahead", b, 1, -20, 20, -20);
        b.fact(2, 10, 1, 50);
        b.fact(1, 50, 2, 10);
        dueRight("40 back by more", b, 2, 20, -20, -20);
    }

    private static void seenEdges() {
        SquareAlbum a = Due.album("square 5 4;");
        int[][] bad = {{5, 0, 0, 0}, {-1, 0, 0, 0}, {0, 4, 0, 0}, {0, -1, 0, 0}, {0, 0, -1, 0}, {0, 0, 100, 0}, {0, 0, 0, -1},
            {0, 0, 0, 10}, {Integer.MIN_VALUE, 0, 0, 0}, {0, 0, Integer.MAX_VALUE, 0}};
        for (int[] b : bad) {
            due("seen" + java.util.Arrays.toString(b), a.seen(b[0], b[1], b[2], b[3]), -1);
        }
        due("nobody seen", a.count(4), 0);
        for (int k = 1; k <= 8; k++) {
            due("seen " + k, a.seen(4, 3, 99, 9), k);
        }
        due("one too many", a.seen(0, 0, 0, 0), -3);
        due("BAD ahead of FULL", a.seen(5, 0, 0, 0), -1);
        due("count(4)", a.count(4), 8);
        due("all alike", a.joined(), 1);
        SquareAlbum b = Due.album("wall 1 1;");
        due("seen on a wall", b.seen(1, 1, 0, 0), 1);
    }

    private static void joining() {
        SquareAlbum a = new SquareAlbum();
        due("nobody", a.joined(), 0);
        a.seen(0, 0, 10, 5);
        due("one", a.joined(), 1);
        a.seen(2, 3, 15, 5);
        due("5 apart in 5", a.joined(), 1);
        a.seen(2, 2, 14, 5);
        due("between", a.joined(), 1);
        a.seen(3, 3, 15, 5);
        due("another cell at one second", a.joined(), 2);
        a.seen(3, 3, 15, 4);
        due("another mark", a.joined(), 3);
        a.seen(7, 7, 15, 5);
        due("too far", a.joined(), 4);
        SquareAlbum b = new SquareAlbum();
        b.seen(0, 0, 0, 1);
        b.seen(4, 2, 5, 1);
        due("6 apart in 5", b.joined(), 2);
        SquareAlbum c = new SquareAlbum();
        c.seen(4, 2, 6, 1);
        c.seen(0, 0, 0, 1);
        due("told backwards", c.joined(), 1);
        SquareAlbum d = new SquareAlbum();
        for (int k = 0; k < 8; k++) {
            d.seen(k, 0, 0, 1);
        }
        due("eight at once", d.joined(), 8);
    }

    /** Two who meet by time: joining each to the first that is free would need three. */
    private static void joiningInTheMiddle() {
        SquareAlbum a = new SquareAlbum();
        a.seen(0, 0, 0, 0);
        a.seen(2, 0, 0, 0);
        a.seen(1, 0, 1, 0);
        a.seen(3, 0, 1, 0);
        due("the first goes to the third, the second to the fourth", a.joined(), 2);
        SquareAlbum b = new SquareAlbum();
        b.seen(1, 0, 0, 0);
        b.seen(3, 0, 0, 0);
        b.seen(2, 0, 1, 0);
        b.seen(0, 0, 1, 0);
        due("the first must not take the third", b.joined(), 2);
    }

    /** What could be joined earlier, must not count for others later. */
    private static void joiningAnew() {
        SquareAlbum a = new SquareAlbum();
        a.seen(0, 0, 0, 0);
        a.seen(0, 0, 5, 0);
        a.seen(0, 0, 9, 0);
        due("one", a.joined(), 1);
        a.forget();
        a.seen(0, 0, 0, 0);
        a.seen(0, 0, 5, 1);
        a.seen(0, 0, 9, 2);
        due("three", a.joined(), 3);
    }

    private static void forgetting() {
        SquareAlbum a = new SquareAlbum();
        due("forget nothing", a.forget(), 0);
        a.fact(0, 0, 1, 5);
        a.fact(0, 0, 1, 5);
        a.seen(0, 0, 0, 0);
        due("forget", a.forget(), 3);
        due("count(3)", a.count(3), 0);
        due("count(4)", a.count(4), 0);
        due("right(1)", a.right(1), -20);
        due("joined", a.joined(), 0);
        due("forget again", a.forget(), 0);
        due("fact", a.fact(0, 0, 1, 5), 1);
        due("seen", a.seen(0, 0, 0, 0), 1);
        SquareAlbum b = Due.album("picture 0 0 0 1 5;");
        b.has(0, 1);
        b.forget();
        due("the hat stays", b.hat(0), 5);
    }

    private static void allInAll() {
        // nobody hides another: five to the right of 0 4, each on its own path
        SquareAlbum a = Due.album("square 12 12;person 4 3 4 0 9 0;person 4 4 4 0 9 0;person 4 5 4 0 9 0;person 4 2 4 0 9 0;"
                + "person 4 6 4 0 9 0;person 9 9 4 0 9 0;picture 0 4 0 4 0;picture 2 4 0 4 0;picture 8 9 0 1 0;picture 3 3 0 1 0;"
                + "picture 0 4 0 4 0;picture 0 4 0 4 50;");
        due("shows(0)", a.shows(0), 31);
        due("shows(1)", a.shows(1), 7);
        due("shows(2)", a.shows(2), 32);
        due("shows(3)", a.shows(3), 1);
        due("all(0, 1, 0): 5 times 3 by 3", a.all(0, 1, 0), 5);
        due("all(0, 1, 1)", a.all(0, 1, 1), 1);
        due("all(1, 0, 0)", a.all(1, 0, 0), 5);
        due("all(0, 3, 0): 5 times 1 by 1", a.all(0, 3, 0), 5);
        due("all(0, 4, 0): 5 times 5 by 5", a.all(0, 4, 0), 5);
        due("all(0, 4, 1)", a.all(0, 4, 1), 1);
        due("all(0, 2, 0)", a.all(0, 2, 0), -2);
        due("all(0, 2, 1)", a.all(0, 2, 1), -2);
        due("nobody at all", a.all(0, 5, 0), -2);
        int[][] bad = {{0, 0, 0}, {2, 2, 1}, {-1, 0, 0}, {0, -1, 0}, {6, 0, 0}, {0, 6, 0}, {0, 1, 2}, {0, 1, -1},
            {Integer.MAX_VALUE, 0, 0}, {0, 2, 2}};
        for (int[] b : bad) {
            due("all" + java.util.Arrays.toString(b), a.all(b[0], b[1], b[2]), -1);
        }
        leastTerms();
    }

    private static void leastTerms() {
        // picture 0: persons 0, 1, 2; picture 1: persons 1, 2, 3; both: 1, 2; 9 by 2
        SquareAlbum a = Due.album("square 12 12;person 4 3 4 0 0 0;person 4 4 4 0 9 0;person 4 5 4 0 9 0;person 4 6 4 1 9 0;"
                + "picture 0 4 0 4 0;picture 0 4 0 4 1;picture 3 4 0 1 0;");
        due("shows(0)", a.shows(0), 7);
        due("shows(1)", a.shows(1), 14);
        due("upper", a.all(0, 1, 0), 9);
        due("lower", a.all(0, 1, 1), 2);
        // persons 0 to 3 and 2 to 5, both: two; 16 by 2 is 8 by 1
        SquareAlbum b = Due.album("square 12 12;person 4 3 4 0 0 0;person 4 2 4 0 0 0;person 4 4 4 0 9 0;person 4 5 4 0 9 0;"
                + "person 4 6 4 1 9 0;person 4 3 4 1 9 0;picture 0 4 0 4 0;picture 0 4 0 4 1;");
        due("upper of 16 by 2", b.all(0, 1, 0), 8);
        due("lower of 16 by 2", b.all(0, 1, 1), 1);
    }
}
