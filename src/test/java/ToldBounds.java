/** The bounds of waits, of what can be told and of what is not true, as part 4 tells them; and of promises 24 to 28. */
final class ToldBounds {
    private static final int LEAST = Integer.MIN_VALUE, MOST = Integer.MAX_VALUE;

    /** One right ahead of 0 0, and a picture from there. */
    private static final String THERE = "person 1 0 4 ", PICTURE = "picture 0 0 0 1 ";

    private final Book book;

    private ToldBounds(Book book) {
        this.book = book;
    }

    static void all(Book book) {
        ToldBounds bounds = new ToldBounds(book);
        bounds.wait99();
        bounds.lostOfAll();
        bounds.inHowMany();
        bounds.withWhom();
        bounds.firstAndLast();
        bounds.ruleOfAll();
        bounds.untrueOfSet();
        bounds.waits();
        bounds.lost();
        bounds.told();
        bounds.rule();
        bounds.untrue();
    }

    private void wait99() {
        book.terms("WAIT of a PICTURE: by how many SECONDS (0 .. 99) later at the least it would SHOW nobody; NONE.");
        for (int second = 0; second <= 99; second += 33) {
            // nobody at once; one who stays for 0, 97, 98 and 99 seconds more
            String picture = PICTURE + second + ";";
            book.run().tell(picture).due(0, "waits", 0);
            book.run().tell(THERE + second + " 0 0;" + picture).due(1, "waits", 0);
            book.run().tell(THERE + second + " 97 0;" + picture).due(98, "waits", 0);
            book.run().tell(THERE + second + " 98 0;" + picture).due(99, "waits", 0);
            book.run().tell(THERE + second + " 99 0;" + picture).due(-9, "waits", 0);
        }
        // one who comes when the other goes; one who comes a second later
        book.run().tell(THERE + "0 9 0;" + THERE + "10 9 0;" + PICTURE + "0;").due(20, "waits", 0);
        book.run().tell(THERE + "0 9 0;" + THERE + "11 9 0;" + PICTURE + "0;").due(10, "waits", 0);
        book.run().tell(THERE + "0 49 0;" + THERE + "50 49 0;" + PICTURE + "0;" + PICTURE + "1;").due(-9, "waits", 0)
                .due(99, "waits", 1);
        book.run().tell(THERE + "0 49 0;" + THERE + "51 49 0;" + PICTURE + "0;").due(50, "waits", 0);
        // one who is hidden is not shown, but who hides it is; both on a wall are nowhere
        book.run().tell("square 5 3;wall 2 1;person 3 1 4 0 99 0;picture 0 1 0 4 0;").due(0, "waits", 0);
        book.run().tell("square 5 3;person 0 1 0 0 99 0;picture 0 1 0 2 1;picture 0 1 0 4 1;").due(2, "waits", 0).due(4, "waits", 1);
    }

    private void lostOfAll() {
        book.terms("LOST: all that are not NONE added.");
        book.run().due(0, "lost");
        book.run().tell(PICTURE + "0;").due(0, "lost");
        book.run().tell(THERE + "0 98 0;" + (PICTURE + "0;").repeat(10)).due(990, "lost");
        book.run().tell(THERE + "0 99 0;" + (PICTURE + "0;").repeat(10)).due(0, "lost");
        book.run().tell(THERE + "0 99 0;" + (PICTURE + "0;").repeat(9) + PICTURE + "1;").due(99, "lost").due(-9, "waits", 0);
        book.run().tell(THERE + "0 5 0;" + PICTURE + "0;" + PICTURE + "3;" + PICTURE + "6;").due(6 + 3, "lost");
    }

    private void inHowMany() {
        book.terms("TOLD of one: in how many PICTURES it is;");
        book.run().tell(THERE + "0 9 0;").due(0, "told", 0, 0);
        book.run().tell(THERE + "0 9 0;" + PICTURE + "10;").due(0, "told", 0, 0);
        book.run().tell(THERE + "0 9 0;" + PICTURE + "9;").due(1, "told", 0, 0);
        book.run().tell(THERE + "0 9 0;" + (PICTURE + "9;").repeat(10)).due(10, "told", 0, 0);
        // in the view, but hidden
        book.run().tell("square 5 3;person 3 1 4 0 9 0;person 2 1 4 0 9 0;picture 0 1 0 4 0;picture 4 1 2 4 0;").due(1, "told", 0, 0)
                .due(1, "told", 1, 0);
    }

    private void withWhom() {
        book.terms("with whom in the most (the least number; NONE: with nobody);");
        // alone, or in no picture at all
        book.run().tell(THERE + "0 9 0;person 5 5 4 0 9 0;" + PICTURE + "0;").due(-9, "told", 0, 1).due(-9, "told", 1, 1);
        book.run().tell(THERE + "0 9 0;").due(-9, "told", 0, 1);
        // with each of seven as often: the least, and that is never oneself
        Run eight = book.run().tell((THERE + "0 9 0;").repeat(8) + (PICTURE + "0;").repeat(10));
        eight.due(1, "told", 0, 1);
        for (int p = 1; p < 8; p++) {
            eight.due(0, "told", p, 1);
        }
        // with 1 once, with 2 twice, with 3 twice
        book.run().tell(THERE + "0 9 0;" + THERE + "0 0 0;" + THERE + "1 1 0;" + THERE + "1 1 0;" + PICTURE + "0;" + PICTURE + "1;"
                + PICTURE + "2;").due(2, "told", 0, 1).due(0, "told", 1, 1).due(0, "told", 2, 1).due(0, "told", 3, 1);
        // with the last alone
        book.run().tell(THERE + "0 9 0;" + "person 7 7 4 0 0 0;".repeat(6) + THERE + "5 5 0;" + PICTURE + "5;").due(7, "told", 0, 1)
                .due(0, "told", 7, 1);
    }

    private void firstAndLast() {
        book.terms("the first, the last SECOND of these (NONE).");
        book.run().tell(THERE + "50 0 0;" + PICTURE + "49;" + PICTURE + "51;").due(-9, "told", 0, 2).due(-9, "told", 0, 3);
        book.run().tell(THERE + "0 0 0;" + PICTURE + "0;").due(0, "told", 0, 2).due(0, "told", 0, 3);
        book.run().tell(THERE + "99 0 0;" + PICTURE + "99;").due(99, "told", 0, 2).due(99, "told", 0, 3);
        book.run().tell(THERE + "0 99 0;" + PICTURE + "50;" + PICTURE + "99;" + PICTURE + "0;" + PICTURE + "51;").due(0, "told", 0, 2)
                .due(99, "told", 0, 3);
        book.run().tell(THERE + "0 99 0;" + (PICTURE + "50;").repeat(8) + PICTURE + "49;" + PICTURE + "51;").due(49, "told", 0, 2)
                .due(51, "told", 0, 3).due(10, "told", 0, 0);
        // pictures it is not in do not count
        book.run().tell(THERE + "5 4 0;" + PICTURE + "4;" + PICTURE + "9;" + PICTURE + "5;" + PICTURE + "10;").due(5, "told", 0, 2)
                .due(9, "told", 0, 3);
    }

    private void ruleOfAll() {
        book.terms("RULE k: the greatest d (0 .. 9) so that, if faces are shown to d AHEAD only, everybody is in k PICTURES at most.");
        book.run().due(9, "rule", 0).due(9, "rule", 10);
        book.run().tell(THERE + "0 9 0;").due(9, "rule", 0);
        book.run().tell(PICTURE + "0;").due(9, "rule", 0);
        // one in one picture, so far ahead: it may be shown to one less, if it must be in none
        for (int ahead = 1; ahead <= 9; ahead++) {
            String one = "square 12 3;person " + ahead + " 1 4 0 9 0;picture 0 1 0 ";
            book.run().tell(one + ahead + " 0;").due(ahead - 1, "rule", 0).due(9, "rule", 1);
            book.run().tell(one + "9 0;").due(ahead - 1, "rule", 0).due(9, "rule", 1);
            if (ahead > 1) {
                book.run().tell(one + (ahead - 1) + " 0;").due(9, "rule", 0);
            }
        }
        // one in ten pictures
        Run ten = book.run().tell(THERE + "0 9 0;" + (PICTURE + "0;").repeat(10));
        for (int k = 0; k <= 10; k++) {
            ten.due(k < 10 ? 0 : 9, "rule", k);
        }
        // everybody: one is in two, the other in one; the nearest of each counts
        book.run().tell("square 12 3;person 5 1 4 0 0 0;person 3 1 4 1 9 0;picture 0 1 0 9 0;picture 0 1 0 9 1;picture 1 1 0 9 1;")
                .due(1, "rule", 0).due(2, "rule", 1).due(9, "rule", 2);
        // who is hidden is in no picture; who hides it does so, though its own face is not shown
        book.run().tell("square 12 3;person 9 1 4 0 0 0;person 8 1 4 0 0 0;picture 0 1 0 9 0;").due(7, "rule", 0).due(9, "rule", 1);
    }

    private void untrueOfSet() {
        book.terms("UNTRUE: a PICTURE told with a set: how many of the set it does not SHOW, and how many it SHOWS that are not of it.");
        Run run = book.run().tell((THERE + "0 9 0;").repeat(4) + "person 5 5 4 0 9 0;".repeat(4) + PICTURE + "0;" + PICTURE + "10;");
        run.due(0, "untrue", 0, 15).due(4, "untrue", 0, 0).due(8, "untrue", 0, 240).due(4, "untrue", 0, 255).due(2, "untrue", 0, 23)
                .due(0, "untrue", 1, 0).due(8, "untrue", 1, 255).due(1, "untrue", 1, 128);
    }

    private void waits() {
        book.promise(24, "WAIT; NONE. BAD.");
        Run run = book.run().tell(THERE + "0 99 0;" + (PICTURE + "0;").repeat(9) + PICTURE + "99;").due(-9, "waits", 0)
                .due(1, "waits", 9);
        run.refused(-1, "waits", -1).refused(-1, "waits", 10).refused(-1, "waits", LEAST).refused(-1, "waits", MOST);
        book.run().refused(-1, "waits", 0);
        book.fullRun().refused(-1, "waits", 3);
    }

    private void lost() {
        book.promise(25, "LOST.");
        book.run().due(0, "lost").tell(THERE + "0 98 0;" + PICTURE + "0;").due(99, "lost").tell("").due(0, "lost");
    }

    private void told() {
        book.promise(26, "TOLD of one: 0 in how many, 1 with whom, 2 the first SECOND, 3 the last. BAD.");
        Run run = book.run().tell((THERE + "3 5 0;").repeat(8) + PICTURE + "4;" + PICTURE + "6;");
        run.due(2, "told", 7, 0).due(0, "told", 7, 1).due(4, "told", 7, 2).due(6, "told", 7, 3).due(1, "told", 0, 1);
        long[][] bad = {{-1, 0}, {8, 0}, {0, -1}, {0, 4}, {7, 4}, {8, 4}, {LEAST, 0}, {MOST, 0}, {0, LEAST}, {0, MOST}};
        for (long[] numbers : bad) {
            run.refused(-1, "told", numbers);
        }
        book.run().refused(-1, "told", 0, 0).refused(-1, "told", 0, 3);
    }

    private void rule() {
        book.promise(27, "RULE (k 0 .. 10). BAD.");
        Run run = book.fullRun().due(9, "rule", 10).due(2, "rule", 0);
        run.refused(-1, "rule", -1).refused(-1, "rule", 11).refused(-1, "rule", LEAST).refused(-1, "rule", MOST);
        book.run().refused(-1, "rule", -1).refused(-1, "rule", 11);
    }

    private void untrue() {
        book.promise(28, "UNTRUE. BAD (bits of people that there are not, too).");
        Run eight = book.run().tell((THERE + "0 9 0;").repeat(8) + (PICTURE + "0;").repeat(10)).due(0, "untrue", 9, 255)
                .due(8, "untrue", 9, 0);
        long[][] bad = {{0, 256}, {0, 257}, {0, -1}, {0, -256}, {-1, 0}, {10, 0}, {0, LEAST}, {0, MOST}, {LEAST, 0}, {MOST, 0},
            {10, 256}};
        for (long[] numbers : bad) {
            eight.refused(-1, "untrue", numbers);
        }
        book.run().tell(THERE + "0 9 0;" + PICTURE + "0;").due(0, "untrue", 0, 1).refused(-1, "untrue", 0, 2).refused(-1, "untrue", 0, 3);
        book.run().tell(PICTURE + "0;").due(0, "untrue", 0, 0).refused(-1, "untrue", 0, 1);
        book.run().refused(-1, "untrue", 0, 0);
    }
}
