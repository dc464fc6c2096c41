import java.util.Random;

/** All promises: runs of 512 calls with numbers by lot, each answer compared with the plain album's. */
public final class FuzzTest {
    private static final int RUNS = 150, CALLS = 512;
    private static final int[] EDGES = {Integer.MIN_VALUE, -2, -1, 10, 11, 12, 99, 100, 199, 200, 255, 256, Integer.MAX_VALUE};
    private static final Due DUE = new Due();

    private final Random lot;
    private final SquareAlbum album = new SquareAlbum();
    private final PlainAlbum plain = new PlainAlbum();

    private FuzzTest(long seed) {
        lot = new Random(seed);
    }

    public static void main(String[] args) {
        for (int run = 0; run < RUNS; run++) {
            FuzzTest test = new FuzzTest(run);
            int calls = 0;
            while (calls < CALLS) {
                calls += test.lot.nextInt(90) == 0 || calls == 0 ? test.readText(run) : test.call(run);
            }
        }
        DUE.end();
    }

    private int below(int bound) {
        return lot.nextInt(bound);
    }

    /** Mostly a number below a bound, now and then one beyond it. */
    private int upTo(int bound) {
        int by = below(40);
        return by == 0 ? EDGES[below(EDGES.length)] : by == 1 ? bound : below(Math.max(1, bound));
    }

    private int x() {
        return upTo(plain.count(6));
    }

    private int y() {
        return upTo(plain.count(7));
    }

    private int p() {
        return upTo(plain.count(0));
    }

    private int i() {
        return upTo(plain.count(1));
    }

    /** Seconds are near one another, so that people meet. */
    private int second(int most) {
        return below(4) == 0 ? upTo(most) : upTo(15);
    }

    private String text() {
        int wide = 8;
        int high = 8;
        StringBuilder text = new StringBuilder();
        if (below(4) != 0) {
            wide = 3 + below(10);
            high = 3 + below(10);
            text.append("square " + wide + " " + high + ";");
        }
        int items = below(26);
        int spotX = below(wide);
        int spotY = below(high);
        for (int k = 0; k < items; k++) {
            String cell = " " + below(wide) + " " + below(high) + " ";
            int kind = below(10);
            if (kind < 2) {
                text.append("wall" + cell + ";");
            } else if (kind < 6) {
                text.append("person" + cell + below(5) + " " + below(below(3) == 0 ? 100 : 8) + " "
                        + below(below(2) == 0 ? 100 : 12) + " " + below(10) + ";");
            } else {
                boolean isAtSpot = below(2) == 0;
                String place = isAtSpot ? " " + spotX + " " + spotY + " 1 3" : cell + below(4) + " " + (1 + below(9));
                text.append("picture" + place + " " + below(below(3) == 0 ? 100 : 10) + ";");
            }
        }
        if (below(5) == 0 && text.length() > 0) {
            spoil(text);
        }
        return text.toString();
    }

    private void spoil(StringBuilder text) {
        String signs = " ;;0123456789abcwlpsq-\u0000\u00ff";
        int at = below(text.length());
        switch (below(3)) {
            case 0 -> text.setCharAt(at, signs.charAt(below(signs.length())));
            case 1 -> text.deleteCharAt(at);
            default -> text.setLength(at);
        }
    }

    private int readText(int run) {
        String text = text();
        int calls = 0;
        for (int at = 0; at < text.length(); at += 8) {
            int n = Math.min(8, text.length() - at);
            long v = lot.nextLong();
            for (int k = 0; k < n; k++) {
                v = v << 8 | text.charAt(at + k);
            }
            due(run, "type", album.type(v, n), plain.type(v, n), v, n);
            calls++;
        }
        int items = plain.square();
        due(run, "square \"" + text + "\"", album.square(), items);
        if (items < 0 && below(4) != 0) {
            due(run, "clear", album.clear(), plain.clear());
        }
        return calls + 2;
    }

    private void due(int run, String name, long got, long want, long... numbers) {
        DUE.due("run " + run + ": " + name + java.util.Arrays.toString(numbers), got, want);
    }

    private int call(int run) {
        int which = below(36);
        if (which < 12) {
            callOfSight(run, which);
        } else if (which < 24) {
            callOfNotes(run, which);
        } else {
            callOfPictures(run, which);
        }
        return 1;
    }

    private void callOfSight(int run, int which) {
        int x = x();
        int y = y();
        int p = p();
        int i = i();
        int t = second(200);
        int reach = upTo(9) + 1;
        int way = upTo(4);
        int set = upTo(1 << plain.count(0));
        int what = upTo(6);
        switch (which) {
            case 0 -> due(run, "wall", album.wall(x, y), plain.wall(x, y), x, y);
            case 1 -> due(run, "person", album.person(p, what), plain.person(p, what), p, what);
            case 2 -> due(run, "picture", album.picture(i, what), plain.picture(i, what), i, what);
            case 3, 4 -> due(run, "where", album.where(p, t), plain.where(p, t), p, t);
            case 5, 6 -> due(run, "on", album.on(x, y, t), plain.on(x, y, t), x, y, t);
            case 7, 8 -> due(run, "view", album.view(x, y, way, reach, t), plain.view(x, y, way, reach, t), x, y, way, reach, t);
            case 9, 10 -> due(run, "hidden", album.hidden(i, p), plain.hidden(i, p), i, p);
            default -> {
                int one = upTo(2);
                int shown = below(3) == 0 ? set : plain.view(x, y, way, reach, t);
                due(run, "from", album.from(shown, reach, t, one), plain.from(shown, reach, t, one), shown, reach, t, one);
            }
        }
    }

    private void callOfNotes(int run, int which) {
        int x = x();
        int y = y();
        int i = i();
        int two = upTo(2);
        switch (which) {
            case 12, 13 -> {
                int a = upTo(4);
                int b = upTo(4);
                int u = 20 + below(8);
                int v = below(6) == 0 ? upTo(100) : 20 + below(8);
                due(run, "fact", album.fact(a, u, b, v), plain.fact(a, u, b, v), a, u, b, v);
            }
            case 14 -> {
                int what = upTo(4);
                due(run, "right", album.right(what), plain.right(what), what);
            }
            case 15, 16 -> {
                int t = second(100);
                int mark = below(8) == 0 ? upTo(10) : below(2);
                due(run, "seen", album.seen(x, y, t, mark), plain.seen(x, y, t, mark), x, y, t, mark);
            }
            case 17 -> due(run, "joined", album.joined(), plain.joined());
            case 18 -> {
                if (below(4) == 0) {
                    due(run, "forget", album.forget(), plain.forget());
                }
            }
            case 19, 20 -> {
                int is = upTo(3);
                due(run, "has", album.has(i, is), plain.has(i, is), i, is);
            }
            case 21 -> due(run, "hat", album.hat(two), plain.hat(two), two);
            case 22 -> {
                int r = below(2) == 0 ? upTo(12) : below(3);
                due(run, "near", album.near(x, y, r), plain.near(x, y, r), x, y, r);
            }
            default -> {
                if (below(2) == 0) {
                    due(run, "keep", album.keep(two), plain.keep(two), two);
                } else {
                    due(run, "back", album.back(two), plain.back(two), two);
                }
            }
        }
    }

    private void callOfPictures(int run, int which) {
        int i = i();
        int p = p();
        int what = upTo(4);
        int two = upTo(2);
        switch (which) {
            case 24 -> {
                int j = i();
                due(run, "all", album.all(i, j, two), plain.all(i, j, two), i, j, two);
            }
            case 25 -> due(run, "shows", album.shows(i), plain.shows(i), i);
            case 26, 27 -> due(run, "empty", album.empty(i, two), plain.empty(i, two), i, two);
            case 28 -> due(run, "waits", album.waits(i), plain.waits(i), i);
            case 29 -> due(run, "lost", album.lost(), plain.lost());
            case 30 -> due(run, "told", album.told(p, what), plain.told(p, what), p, what);
            case 31 -> {
                int k = upTo(4);
                due(run, "rule", album.rule(k), plain.rule(k), k);
            }
            case 32 -> {
                int set = upTo(1 << plain.count(0));
                due(run, "untrue", album.untrue(i, set), plain.untrue(i, set), i, set);
            }
            case 33 -> {
                int kind = upTo(6);
                due(run, "rate", album.rate(kind, i), plain.rate(kind, i), kind, i);
            }
            case 34 -> {
                int of = upTo(8);
                due(run, "count", album.count(of), plain.count(of), of);
            }
            default -> due(run, "trace", album.trace(), plain.trace());
        }
    }
}
