/** The bounds of part 3 of the terms up to ALL: clocks, sightings, how many in all; and of promises 14 to 19. */
final class ClockBounds {
    private static final int LEAST = Integer.MIN_VALUE, MOST = Integer.MAX_VALUE, NO = -1000000;

    private final Book book;

    private ClockBounds(Book book) {
        this.book = book;
    }

    static void all(Book book) {
        ClockBounds bounds = new ClockBounds(book);
        bounds.facts();
        bounds.farAhead();
        bounds.mostHold();
        bounds.firstOfSeveral();
        bounds.outliers();
        bounds.seenAtMost();
        bounds.canBeOne();
        bounds.fewest();
        bounds.allByTwo();
        bounds.fact();
        bounds.right();
        bounds.seen();
        bounds.joined();
        bounds.forget();
        bounds.all();
    }

    private static Run right(Run run, int outliers, int one, int two, int three) {
        return run.due(outliers, "right", 0).due(one, "right", 1).due(two, "right", 2).due(three, "right", 3);
    }

    private void facts() {
        book.terms("3 CLOCKS 0 .. 3: FACTS (20 at most): what clock a had as u and clock b as v (0 .. 99 each) was at once.");
        Run run = book.fullRun().call("forget");
        for (int k = 1; k <= 20; k++) {
            run.due(k, "fact", k % 2 == 0 ? 0 : 3, 0, k % 2 == 0 ? 3 : 0, 0);
        }
        right(run, 0, -20, -20, 0);
        run.refused(-3, "fact", 0, 0, 1, 0).refused(-3, "fact", 3, 99, 2, 99).due(20, "count", 3);
        run.due(20, "forget").due(1, "fact", 0, 0, 1, 0);
        for (int a = -1; a <= 4; a++) {
            for (int b = -1; b <= 4; b++) {
                boolean isFact = a >= 0 && a <= 3 && b >= 0 && b <= 3 && a != b;
                if (isFact) {
                    book.run().due(1, "fact", a, 0, b, 99).due(2, "fact", a, 99, b, 0);
                } else {
                    book.fullRun().refused(-1, "fact", a, 0, b, 0);
                }
            }
        }
        book.fullRun().refused(-1, "fact", 0, -1, 1, 0).refused(-1, "fact", 0, 100, 1, 0).refused(-1, "fact", 0, 0, 1, -1)
                .refused(-1, "fact", 0, 0, 1, 100);
    }

    /** Of each two clocks: as far apart as they can be, and one more. */
    private void farAhead() {
        book.terms("RIGHT: how far clocks 1, 2, 3 are ahead of clock 0 (-20 .. 20 each):");
        right(book.run(), 0, -20, -20, -20);
        for (int clock = 1; clock <= 3; clock++) {
            int[] aheads = {-21, -20, -19, 0, 19, 20, 21, 99, -99};
            for (int ahead : aheads) {
                boolean holds = Math.abs(ahead) <= 20;
                int u = Math.max(0, -ahead);
                int v = Math.max(0, ahead);
                book.run().call("fact", 0, u, clock, v).due(holds ? 0 : 1, "right", 0).due(holds ? ahead : -20, "right", clock)
                        .due(-20, "right", clock % 3 + 1);
                book.run().call("fact", clock, v, 0, u).due(holds ? 0 : 1, "right", 0).due(holds ? ahead : -20, "right", clock);
            }
        }
        for (int a = 1; a <= 3; a++) {
            for (int b = 1; b <= 3; b++) {
                if (a != b) {
                    farApart(a, b);
                }
            }
        }
    }

    private void farApart(int a, int b) {
        book.run().call("fact", a, 0, b, 40).due(0, "right", 0).due(-20, "right", a).due(20, "right", b).due(-20, "right", 6 - a - b);
        book.run().call("fact", a, 59, b, 99).due(0, "right", 0).due(-20, "right", a).due(20, "right", b);
        book.run().call("fact", a, 0, b, 39).due(0, "right", 0).due(-20, "right", a).due(19, "right", b);
        book.run().call("fact", a, 0, b, 41).due(1, "right", 0).due(-20, "right", a).due(-20, "right", b);
        book.run().call("fact", a, 40, b, 0).due(0, "right", 0).due(20, "right", a).due(-20, "right", b);
        book.run().call("fact", a, 41, b, 0).due(1, "right", 0).due(-20, "right", a).due(-20, "right", b);
        book.run().call("fact", a, 0, b, 99).due(1, "right", 0).due(-20, "right", a).due(-20, "right", b);
    }

    private void mostHold() {
        book.terms("those by which the most FACTS hold (v less u is how far b is ahead less how far a is);");
        Run run = book.run();
        right(run.call("fact", 0, 10, 1, 17), 0, 7, -20, -20);
        right(run.call("fact", 1, 30, 2, 20), 0, 7, -3, -20);
        right(run.call("fact", 2, 50, 3, 61), 0, 7, -3, 8);
        // 8 again, by clock 0; -3 against it, by clock 1
        right(run.call("fact", 3, 18, 0, 10), 0, 7, -3, 8);
        right(run.call("fact", 1, 0, 3, 1), 0, 7, -3, 8);
        right(run.call("fact", 1, 1, 3, 1), 1, 7, -3, 8);
        // one fact against one is no more; two against one are
        right(book.run().call("fact", 0, 0, 1, 9).call("fact", 0, 0, 1, 9).call("fact", 0, 5, 1, 0), 1, 9, -20, -20);
        right(book.run().call("fact", 0, 0, 1, 9).call("fact", 0, 5, 1, 0).call("fact", 0, 5, 1, 0), 1, -5, -20, -20);
        // three that can't hold together: two of them do
        right(book.run().call("fact", 0, 0, 1, 20).call("fact", 1, 0, 2, 20).call("fact", 2, 0, 3, 20), 1, -20, 0, 20);
    }

    private void firstOfSeveral() {
        book.terms("of several the first by clock 1, then 2, then 3 (the least first).");
        right(book.run().call("fact", 0, 10, 1, 10).call("fact", 0, 10, 1, 9), 1, -1, -20, -20);
        right(book.run().call("fact", 0, 10, 2, 10).call("fact", 0, 10, 2, 9), 1, -20, -1, -20);
        right(book.run().call("fact", 0, 10, 3, 10).call("fact", 0, 10, 3, 9), 1, -20, -20, -1);
        right(book.run().call("fact", 0, 10, 3, 9).call("fact", 0, 10, 3, 10), 1, -20, -20, -1);
        // of these two one holds: the least clock 1 goes with the greater clock 2
        right(book.run().call("fact", 1, 0, 2, 30).call("fact", 1, 30, 2, 0), 1, -20, 10, -20);
        // the least clock 2 goes with the greater clock 3
        right(book.run().call("fact", 2, 0, 3, 30).call("fact", 2, 30, 3, 0), 1, -20, -20, 10);
        // the least clock 1 goes ahead of the least clock 3
        right(book.run().call("fact", 1, 0, 3, 25).call("fact", 1, 25, 3, 0), 1, -20, -20, 5);
        // -20 of all, where all hold as well
        right(book.run().call("fact", 1, 5, 2, 5).call("fact", 2, 5, 3, 5).call("fact", 3, 5, 1, 5), 0, -20, -20, -20);
        right(book.run().call("fact", 1, 5, 2, 5).call("fact", 2, 5, 3, 5).call("fact", 3, 5, 0, 5), 0, 0, 0, 0);
    }

    private void outliers() {
        book.terms("OUTLIERS: FACTS that do not hold so.");
        Run none = book.run();
        Run all = book.run();
        for (int k = 0; k < 20; k++) {
            none.call("fact", 0, k, 1, k + 20);
            all.call("fact", 0, 0, 1, 99);
        }
        right(none, 0, 20, -20, -20);
        right(all, 20, -20, -20, -20);
        Run one = book.run().call("fact", 0, 0, 2, 1);
        for (int k = 1; k < 20; k++) {
            one.call("fact", 2, 99, 0, 0);
        }
        right(one, 19, -20, 1, -20);
    }

    private void seenAtMost() {
        book.terms("SEEN (8 at most): somebody at a cell at a SECOND with a MARK.");
        Run run = book.fullRun().call("forget");
        for (int k = 1; k <= 8; k++) {
            run.due(k, "seen", 4, 3, k, k);
        }
        run.due(8, "count", 4).due(8, "joined").refused(-3, "seen", 0, 0, 0, 0).refused(-3, "seen", 4, 3, 99, 9).due(8, "joined");
        run.due(8, "forget").due(1, "seen", 0, 0, 0, 0);
    }

    private void joins(int people, int[]... sightings) {
        Run forth = book.run();
        Run back = book.run();
        for (int k = 0; k < sightings.length; k++) {
            int[] one = sightings[k];
            int[] other = sightings[sightings.length - 1 - k];
            forth.call("seen", one[0], one[1], one[2], one[3]);
            back.call("seen", other[0], other[1], other[2], other[3]);
        }
        forth.due(people, "joined");
        back.due(people, "joined");
    }

    private void canBeOne() {
        book.terms("Two can be ONE, if MARKS are alike");
        joins(1, new int[] {3, 3, 0, 0}, new int[] {3, 3, 9, 0});
        joins(2, new int[] {3, 3, 0, 0}, new int[] {3, 3, 9, 1});
        joins(2, new int[] {3, 3, 0, 9}, new int[] {3, 3, 9, 0});
        book.terms("and the cells are no more apart (x and y added) than the SECONDS,");
        int[][] steps = {{1, 0}, {0, 1}, {-1, 0}, {0, -1}, {1, 1}, {-2, 1}, {3, -3}, {-3, -3}, {4, 4}};
        for (int[] step : steps) {
            int apart = Math.abs(step[0]) + Math.abs(step[1]);
            joins(1, new int[] {3, 3, 50, 5}, new int[] {3 + step[0], 3 + step[1], 50 + apart, 5});
            joins(1, new int[] {3, 3, 50, 5}, new int[] {3 + step[0], 3 + step[1], 50 - apart, 5});
            joins(1, new int[] {3, 3, 50, 5}, new int[] {3 + step[0], 3 + step[1], 50 + apart + 1, 5});
            joins(2, new int[] {3, 3, 50, 5}, new int[] {3 + step[0], 3 + step[1], 50 + apart - 1, 5});
            joins(2, new int[] {3, 3, 50, 5}, new int[] {3 + step[0], 3 + step[1], 50 - apart + 1, 5});
        }
        joins(1, new int[] {0, 0, 0, 5}, new int[] {7, 7, 14, 5});
        joins(2, new int[] {0, 0, 0, 5}, new int[] {7, 7, 13, 5});
        joins(1, new int[] {0, 0, 0, 5}, new int[] {7, 7, 99, 5});
        book.terms("and these are not the same (or all is alike).");
        joins(1, new int[] {3, 3, 7, 5}, new int[] {3, 3, 7, 5});
        joins(2, new int[] {3, 3, 7, 5}, new int[] {3, 4, 7, 5});
        joins(2, new int[] {3, 3, 7, 5}, new int[] {3, 3, 7, 4});
        joins(1, new int[] {3, 3, 0, 5}, new int[] {3, 3, 0, 5}, new int[] {3, 3, 0, 5});
        joins(1, new int[] {3, 3, 7, 5}, new int[] {3, 3, 7, 5}, new int[] {3, 4, 8, 5}, new int[] {3, 4, 8, 5});
    }

    private void fewest() {
        book.terms("JOINED: the fewest people that can be all of these: each one's, by SECONDS, each can be ONE with the next.");
        book.run().due(0, "joined");
        book.run().call("seen", 0, 0, 0, 0).due(1, "joined");
        // a third that both can be does not make them one
        joins(2, new int[] {0, 0, 0, 0}, new int[] {2, 0, 0, 0}, new int[] {1, 0, 1, 0});
        // joining each to the first that is free would make three
        joins(2, new int[] {1, 0, 0, 0}, new int[] {3, 0, 0, 0}, new int[] {2, 0, 1, 0}, new int[] {0, 0, 1, 0});
        // eight of one, second by second along a row; eight at once
        Run one = book.run();
        Run eight = book.run();
        Run alike = book.run();
        for (int k = 0; k < 8; k++) {
            one.due(k + 1, "seen", k, 0, k, 3).due(1, "joined");
            eight.due(k + 1, "seen", k, 0, 5, 3).due(k + 1, "joined");
            alike.due(k + 1, "seen", 7, 7, 99, 9).due(1, "joined");
        }
        // others, when those are forgotten
        one.call("forget").call("seen", 0, 0, 0, 3).call("seen", 0, 0, 1, 4).call("seen", 0, 0, 2, 5).due(3, "joined");
        // two who cross: whoever is whom, they are two
        joins(2, new int[] {0, 0, 0, 1}, new int[] {4, 0, 0, 1}, new int[] {1, 0, 1, 1}, new int[] {3, 0, 1, 1},
                new int[] {2, 0, 2, 1}, new int[] {2, 0, 2, 1}, new int[] {3, 0, 3, 1}, new int[] {1, 0, 3, 1});
    }

    private void allByTwo() {
        book.terms("ALL by two PICTURES: how many the one SHOWS times how many the other one, by how many both: a fraction");
        Run most = book.run().tell("person 1 0 4 0 0 0;".repeat(8) + "picture 0 0 0 1 0;".repeat(10));
        most.due(8, "all", 0, 9, 0).due(1, "all", 0, 9, 1).due(8, "all", 9, 8, 0).due(1, "all", 9, 8, 1);
        Run one = book.run().tell("person 1 0 4 0 0 0;picture 0 0 0 1 0;picture 2 0 2 1 0;");
        one.due(1, "all", 0, 1, 0).due(1, "all", 0, 1, 1).due(1, "all", 1, 0, 0);
        book.terms("(STATE: nobody is in both).");
        Run none = book.run().tell("person 1 0 4 0 0 0;person 5 0 4 0 0 0;picture 0 0 0 1 0;picture 4 0 0 1 0;picture 0 0 1 1 0;"
                + "picture 0 7 1 1 0;");
        none.refused(-2, "all", 0, 1, 0).refused(-2, "all", 0, 1, 1).refused(-2, "all", 1, 0, 0).refused(-2, "all", 0, 2, 0)
                .refused(-2, "all", 2, 3, 0).refused(-2, "all", 2, 3, 1);
    }

    private void fact() {
        book.promise(14, "A FACT (a, b unlike): how many there are. BAD; FULL.");
        Run run = book.fullRun().due(4, "fact", 0, 99, 1, 99).due(5, "fact", 3, 0, 2, 0);
        long[][] bad = {{0, 0, 0, 0}, {1, 5, 1, 6}, {2, 0, 2, 99}, {3, 0, 3, 0}, {-1, 0, 0, 0}, {4, 0, 0, 0}, {0, 0, -1, 0},
            {0, 0, 4, 0}, {0, -1, 1, 0}, {0, 100, 1, 0}, {0, 0, 1, -1}, {0, 0, 1, 100}, {LEAST, 0, 1, 0}, {MOST, 0, 1, 0},
            {0, LEAST, 1, 0}, {0, MOST, 1, 0}, {0, 0, LEAST, 0}, {0, 0, MOST, 0}, {0, 0, 1, LEAST}, {0, 0, 1, MOST}};
        for (long[] numbers : bad) {
            run.refused(-1, "fact", numbers);
        }
        for (int k = 6; k <= 20; k++) {
            run.due(k, "fact", 0, 0, 1, 5);
        }
        for (long[] numbers : bad) {
            run.refused(-1, "fact", numbers);
        }
        run.refused(-3, "fact", 0, 0, 1, 5);
    }

    private void right() {
        book.promise(15, "RIGHT: OUTLIERS (what = 0), how far clock 1, 2, 3 is ahead (1 .. 3). NO: BAD.");
        right(book.run().call("fact", 0, 0, 1, 1).call("fact", 0, 0, 2, 2).call("fact", 0, 0, 3, 3).call("fact", 1, 9, 0, 9), 1, 0, 2,
                3);
        book.fullRun().refused(NO, "right", -1).refused(NO, "right", 4).refused(NO, "right", LEAST).refused(NO, "right", MOST);
        book.run().refused(NO, "right", -1).refused(NO, "right", 4);
    }

    private void seen() {
        book.promise(16, "One is SEEN (SECOND 0 .. 99): how many there are. BAD; FULL.");
        long[][] bad = {{-1, 0, 0, 0}, {5, 0, 0, 0}, {0, -1, 0, 0}, {0, 4, 0, 0}, {4, 4, 0, 0}, {0, 0, -1, 0}, {0, 0, 100, 0},
            {0, 0, 0, -1}, {0, 0, 0, 10}, {LEAST, 0, 0, 0}, {MOST, 0, 0, 0}, {0, LEAST, 0, 0}, {0, MOST, 0, 0}, {0, 0, LEAST, 0},
            {0, 0, MOST, 0}, {0, 0, 0, LEAST}, {0, 0, 0, MOST}};
        Run run = book.fullRun();
        for (long[] numbers : bad) {
            run.refused(-1, "seen", numbers);
        }
        long[][] good = {{0, 0, 0, 0}, {4, 0, 99, 9}, {0, 3, 0, 9}, {4, 3, 99, 0}, {1, 2, 50, 5}, {4, 3, 99, 9}};
        for (int k = 0; k < good.length; k++) {
            run.due(3 + k, "seen", good[k]);
        }
        for (long[] numbers : bad) {
            run.refused(-1, "seen", numbers);
        }
        run.refused(-3, "seen", 0, 0, 0, 0).refused(-3, "seen", 4, 3, 99, 9);
        // the cells are those of the square that there is now
        book.run().due(1, "seen", 7, 7, 0, 0).tell("square 3 12;").refused(-1, "seen", 3, 0, 0, 0).refused(-1, "seen", 0, 12, 0, 0)
                .due(2, "seen", 2, 11, 0, 0);
    }

    private void joined() {
        book.promise(17, "JOINED.");
        Run run = book.run().due(0, "joined").call("seen", 0, 0, 0, 0).due(1, "joined").call("seen", 7, 7, 13, 0).due(2, "joined")
                .call("seen", 7, 7, 14, 0).due(2, "joined");
        run.call("keep", 0).call("forget").due(0, "joined").call("back", 0).due(2, "joined");
        // those of another square stay what they were
        run.tell("square 3 3;").due(2, "joined").due(3, "count", 4);
    }

    private void forget() {
        book.promise(18, "Neither FACTS nor those SEEN: how many there were.");
        book.run().due(0, "forget").due(0, "forget");
        book.run().call("fact", 0, 0, 1, 0).due(1, "forget").due(0, "forget");
        book.run().call("seen", 0, 0, 0, 0).due(1, "forget").due(0, "forget");
        Run run = book.fullRun();
        for (int k = 3; k < 20; k++) {
            run.call("fact", 0, 0, 2, 7);
        }
        for (int k = 2; k < 8; k++) {
            run.call("seen", 0, 0, 0, 0);
        }
        run.due(28, "forget").due(0, "count", 3).due(0, "count", 4).due(0, "joined").due(0, "forget");
        right(run, 0, -20, -20, -20);
        // the hat, the images, the text and the square are not forgotten
        run.due(1, "hat", 0).due(2, "hat", 1).due(17, "count", 5).due(1, "count", 2).due(1, "back", 0).due(2, "back", 1)
                .due(2, "count", 4);
    }

    private void all() {
        book.promise(19, "ALL: upper (what = 0), lower number (1), in least terms.");
        // three and three, two of them in both: 9 by 2; three and two, two in both: 6 by 2 is 3 by 1
        Run run = book.run().tell("square 12 12;person 4 3 4 0 0 0;person 4 4 4 0 9 0;person 4 5 4 0 9 0;person 4 6 4 1 9 0;"
                + "picture 0 4 0 4 0;picture 0 4 0 4 1;picture 8 4 2 4 5;picture 0 4 3 1 0;").due(7, "shows", 0).due(14, "shows", 1);
        run.due(9, "all", 0, 1, 0).due(2, "all", 0, 1, 1).due(9, "all", 1, 0, 0).due(2, "all", 1, 0, 1);
        run.due(14, "shows", 2).due(3, "all", 1, 2, 0).due(1, "all", 1, 2, 1);
        // four and four, two in both: 16 by 2 is 8 by 1; four and three, two in both: 12 by 2 is 6 by 1
        book.run().tell("square 12 12;person 4 3 4 0 0 0;person 4 2 4 0 0 0;person 4 4 4 0 9 0;person 4 5 4 0 9 0;person 4 6 4 1 9 0;"
                + "person 4 3 4 1 0 0;picture 0 4 0 4 0;picture 0 4 0 4 1;picture 0 4 0 4 2;").due(8, "all", 0, 1, 0)
                .due(1, "all", 0, 1, 1).due(6, "all", 0, 2, 0).due(1, "all", 0, 2, 1);
        book.promise(19, "BAD (alike, too); STATE.");
        long[][] bad = {{0, 0, 0}, {1, 1, 1}, {3, 3, 0}, {-1, 0, 0}, {0, -1, 0}, {4, 0, 0}, {0, 4, 0}, {0, 1, -1}, {0, 1, 2},
            {-1, -1, 0}, {0, 3, 2}, {3, 0, -1}, {LEAST, 0, 0}, {MOST, 0, 0}, {0, LEAST, 0}, {0, MOST, 0}, {0, 1, LEAST},
            {0, 1, MOST}};
        for (long[] numbers : bad) {
            run.refused(-1, "all", numbers);
        }
        run.refused(-2, "all", 0, 3, 0).refused(-2, "all", 0, 3, 1).refused(-2, "all", 3, 0, 0);
        book.run().tell("picture 0 0 0 1 0;").refused(-1, "all", 0, 1, 0).refused(-1, "all", 0, 0, 0);
    }
}
