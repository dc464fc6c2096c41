/** The bounds of kinds and images, as part 4 tells them, what holds for every call; and of promises 29 to 31 and 33. */
final class KindBounds {
    private static final int LEAST = Integer.MIN_VALUE, MOST = Integer.MAX_VALUE, NO = -1000000;

    /** What each kind brings to the trace, with all above it. */
    private static final int[] TRACES = {1, 11, 101, 1101, 10011, 100001};

    private final Book book;

    private KindBounds(Book book) {
        this.book = book;
    }

    static void all(Book book) {
        KindBounds bounds = new KindBounds(book);
        bounds.kinds();
        bounds.rates();
        bounds.traceOfBodies();
        bounds.imagesKeep();
        bounds.readAnew();
        bounds.firstOfRefusals();
        bounds.none();
        bounds.rate();
        bounds.keep();
        bounds.back();
        bounds.trace();
        bounds.calls();
    }

    private void kinds() {
        book.terms("KINDS of PICTURES are over one another: 0 PICTURE; 1 POSED, 2 CROSSED, 5 CLOCKED (each under PICTURE); 3 WAITED FOR "
                + "(under CROSSED); 4 COPIED (under POSED).");
        // one is shown, and has gone a second later; the reach is 3, the second 1
        Run run = book.run().tell("square 5 4;person 4 2 0 1 3 0;picture 4 3 3 3 1;").due(1, "shows", 0).due(1, "waits", 0);
        int[] rates = {1, 1 + 3, 1 * 3, 1 * 3 + 1, (1 + 3) * 2, 1 - 1};
        for (int kind = 0; kind <= 5; kind++) {
            run.due(rates[kind], "rate", kind, 0);
        }
        run.refused(NO, "rate", -1, 0).refused(NO, "rate", 6, 0);
    }

    private void rates() {
        book.terms("PICTURE how many it SHOWS (1). POSED up, and REACH (10). CROSSED up times 3 (100). WAITED FOR up, and WAIT (NONE: 100) "
                + "(1000). COPIED up times 2 (10000). CLOCKED up less SECOND (100000).");
        String eight = "person 1 0 4 0 99 0;".repeat(8);
        // all eight by reach 9 at second 0, for ever; at 1 they are gone 99 later
        row(book.run().tell("square 12 12;" + eight + "picture 0 0 0 9 0;picture 0 0 0 9 1;"), 0, 8, 17, 24, 124, 34, 8);
        row(book.run().tell("square 12 12;" + eight + "picture 0 0 0 9 0;picture 0 0 0 9 1;"), 1, 8, 17, 24, 123, 34, 7);
        // nobody by reach 1 at second 99
        row(book.run().tell("picture 0 0 0 1 99;"), 0, 0, 1, 0, 0, 2, -99);
        // nobody at once, at second 0
        row(book.run().tell("picture 0 0 0 9 0;"), 0, 0, 9, 0, 0, 18, 0);
        // the last of ten
        row(book.run().tell("person 1 0 4 0 0 0;" + "picture 7 7 0 1 0;".repeat(9) + "picture 0 0 0 2 0;"), 9, 1, 3, 3, 4, 6, 1);
    }

    private static void row(Run run, int picture, int... rates) {
        long trace = 0;
        for (int kind = 0; kind <= 5; kind++) {
            trace += TRACES[kind];
            run.due(rates[kind], "rate", kind, picture).due(trace, "trace");
        }
    }

    private void traceOfBodies() {
        book.terms("RATE of a PICTURE as if of a KIND (numbers in brackets come to THE TRACE as often as rate() asks that body; \"up\" is "
                + "what the KIND above does):");
        for (int kind = 0; kind <= 5; kind++) {
            Run run = book.run().tell("picture 0 0 0 1 0;").due(0, "trace");
            run.call("rate", kind, 0).due(TRACES[kind], "trace").call("rate", kind, 0).due(2 * TRACES[kind], "trace");
            // no body is asked by what is refused, nor by other calls that tell the same
            run.refused(NO, "rate", kind, 1).refused(NO, "rate", kind, -1);
            run.call("rate", kind, 1).call("rate", 6, 0).call("rate", -1, 0).call("shows", 0).call("waits", 0).call("lost")
                    .call("untrue", 0, 0).call("rule", 0).due(2 * TRACES[kind], "trace");
        }
    }

    private void imagesKeep() {
        book.terms("IMAGES 0, 1 keep FACTS, those SEEN, what HAS the HAT; nothing else.");
        for (int image = 0; image <= 1; image++) {
            // all full, and nothing at all
            Run run = book.run().tell("picture 0 0 0 1 5;".repeat(9) + "picture 0 0 0 1 6;");
            for (int k = 0; k < 20; k++) {
                run.call("fact", 0, 10, 1, 10 + k % 2);
            }
            for (int k = 0; k < 8; k++) {
                run.call("seen", k, 0, 0, k);
            }
            for (int i = 0; i < 10; i++) {
                run.call("has", i, i < 9 ? 1 : 0);
            }
            run.due(20, "keep", image).call("forget");
            for (int i = 0; i < 10; i++) {
                run.call("has", i, 2);
            }
            run.due(0, "keep", 1 - image).due(20, "back", image).due(20, "count", 3).due(8, "count", 4).due(10, "right", 0)
                    .due(0, "right", 1).due(8, "joined").due(5, "hat", 0).due(6, "hat", 1).refused(-3, "fact", 0, 0, 1, 0)
                    .refused(-3, "seen", 0, 0, 0, 0);
            run.due(0, "back", 1 - image).due(0, "count", 3).due(0, "count", 4).due(0, "joined").due(-9, "hat", 0).due(-9, "hat", 1)
                    .due(1, "fact", 0, 0, 1, 0).due(1, "seen", 0, 0, 0, 0);
            for (int i = 0; i < 10; i++) {
                run.due(2, "has", i, 2);
            }
            run.due(20, "back", image).due(20, "count", 3);
        }
        // what was kept comes back, though others have come in its place
        Run others = book.run().call("fact", 0, 0, 1, 5).call("seen", 0, 0, 0, 0).call("seen", 7, 7, 14, 0).call("keep", 0)
                .call("forget").call("fact", 0, 0, 1, 9).call("fact", 0, 0, 2, 9).call("seen", 1, 1, 1, 1).call("seen", 1, 1, 1, 2)
                .call("keep", 1);
        others.due(1, "back", 0).due(5, "right", 1).due(-20, "right", 2).due(1, "joined").due(2, "back", 1).due(9, "right", 1)
                .due(9, "right", 2).due(2, "joined").due(1, "back", 0).due(5, "right", 1).due(1, "joined");
        // neither the text nor the trace
        book.fullRun().call("keep", 0).write(";").call("rate", 0, 0).call("back", 0).due(18, "count", 5).due(1101 + 1, "trace")
                .due(2, "square");
    }

    private void readAnew() {
        book.terms("(Read anew: nothing is told of the HAT, IMAGES are gone; FACTS, those SEEN stay.)");
        String[] texts = {"", "square 3 3;", "picture 0 0 0 1 5;picture 0 0 0 1 6;picture 0 0 0 1 7;"};
        for (String text : texts) {
            Run run = book.fullRun().call("clear").tell(text).due(-9, "hat", 0).due(-9, "hat", 1).refused(-2, "back", 0)
                    .refused(-2, "back", 1).refused(-2, "near", 0, 0, 0).due(3, "count", 3).due(2, "count", 4).due(5, "right", 1)
                    .due(3, "right", 2).due(-5, "right", 3).due(2, "joined").due(1101, "trace");
            for (int i = 0; i < 3 && text.startsWith("picture"); i++) {
                run.due(2, "has", i, 2);
            }
            run.due(3, "keep", 1).refused(-2, "back", 0).due(3, "back", 1).due(5, "forget");
        }
        // full, and read anew: they stay full
        Run full = book.run();
        for (int k = 0; k < 20; k++) {
            full.call("fact", 0, 0, 1, 0);
        }
        for (int k = 0; k < 8; k++) {
            full.call("seen", 7, 7, 0, 0);
        }
        full.tell("square 3 3;").refused(-3, "fact", 0, 0, 1, 0).refused(-3, "seen", 0, 0, 0, 0).due(1, "joined").due(28, "forget");
        // a text that has a fault is not read: the hat and the images stay
        book.fullRun().due(-10 - 17, "square").due(1, "hat", 0).due(2, "hat", 1).due(1, "back", 0).due(2, "back", 1);
        // even the same text once more is read anew
        String same = "picture 0 0 0 1 5;";
        book.run().tell(same).call("has", 0, 1).call("keep", 0).tell(same).due(2, "has", 0, 1).due(-2, "back", 0);
    }

    private void firstOfRefusals() {
        book.terms("Refused, and nothing changes, the first of these: BAD (a number is not as told, or there is no such thing), STATE (as "
                + "told), FULL.");
        Run run = book.fullRun().refused(-1, "back", 2).refused(-1, "back", -1).call("has", 2, 2);
        run.refused(-2, "near", 0, 0, 0).refused(-1, "near", 0, 0, 12).refused(-1, "near", 5, 0, 0);
        run.refused(-2, "all", 0, 2, 0).refused(-1, "all", 0, 2, 2).refused(-1, "all", 0, 3, 0).refused(-1, "all", 2, 2, 0);
        Run none = book.run().refused(-2, "back", 0).refused(-1, "back", 2).refused(-1, "back", -1);
        none.refused(-2, "near", 0, 0, 0).refused(-1, "near", 8, 0, 0).refused(-1, "near", 0, 0, -1);
        Run full = book.run().write(" ".repeat(400));
        for (int k = 0; k < 20; k++) {
            full.call("fact", 0, 0, 1, 0);
        }
        for (int k = 0; k < 8; k++) {
            full.call("seen", 0, 0, 0, 0);
        }
        full.refused(-3, "type", ';', 1).refused(-1, "type", ';', 0).refused(-1, "type", ';', 9);
        full.refused(-3, "fact", 0, 0, 1, 0).refused(-1, "fact", 0, 0, 0, 0).refused(-1, "fact", 0, 0, 1, 100);
        full.refused(-3, "seen", 0, 0, 0, 0).refused(-1, "seen", 8, 0, 0, 0).refused(-1, "seen", 0, 0, 0, 10);
    }

    private void none() {
        book.terms("The constants: What none is, where a number may be below 0.");
        book.due.due("NO", SquareAlbum.NO, NO);
        book.due.due("BAD", SquareAlbum.BAD, -1);
        book.due.due("STATE", SquareAlbum.STATE, -2);
        book.due.due("FULL", SquareAlbum.FULL, -3);
        book.due.due("NONE", SquareAlbum.NONE, -9);
        // right and rate may answer below 0: -1 and -9 are numbers of theirs
        book.run().call("fact", 0, 1, 1, 0).call("fact", 0, 9, 2, 0).due(-1, "right", 1).due(-9, "right", 2).due(NO, "right", 4);
        book.run().tell("picture 0 0 0 1 1;picture 0 0 0 1 9;").due(-1, "rate", 5, 0).due(-9, "rate", 5, 1).due(NO, "rate", 5, 2);
    }

    private void rate() {
        book.promise(29, "RATE. NO: BAD.");
        long[][] bad = {{-1, 0}, {6, 0}, {0, -1}, {0, 3}, {5, 3}, {6, 3}, {LEAST, 0}, {MOST, 0}, {0, LEAST}, {0, MOST}};
        Run run = book.fullRun();
        for (long[] numbers : bad) {
            run.refused(NO, "rate", numbers);
        }
        book.run().refused(NO, "rate", 0, 0).refused(NO, "rate", 5, 0);
        Run ten = book.run().tell("picture 0 0 0 1 0;".repeat(10)).due(0, "rate", 0, 9).due(2, "rate", 4, 9);
        ten.refused(NO, "rate", 0, 10).refused(NO, "rate", 4, 10);
    }

    private void keep() {
        book.promise(30, "An IMAGE is kept: how many FACTS. BAD.");
        Run run = book.fullRun().refused(-1, "keep", -1).refused(-1, "keep", 2).refused(-1, "keep", LEAST).refused(-1, "keep", MOST);
        run.due(3, "keep", 0).due(3, "back", 0).due(2, "back", 1).due(2, "keep", 0).due(2, "back", 0);
        book.run().due(0, "keep", 0).due(0, "keep", 1).due(0, "back", 0).due(0, "back", 1);
        // an image that is kept is not changed by what comes behind
        book.run().call("fact", 0, 0, 1, 5).due(1, "keep", 1).due(2, "fact", 0, 0, 1, 6).due(1, "seen", 0, 0, 0, 0).due(2, "keep", 0)
                .due(1, "back", 1).due(5, "right", 1).due(0, "count", 4).due(2, "back", 0).due(1, "count", 4);
    }

    private void back() {
        book.promise(31, "All of that becomes as an IMAGE has it: how many FACTS. BAD; STATE: none was kept.");
        book.run().refused(-2, "back", 0).refused(-2, "back", 1).due(0, "keep", 0).refused(-2, "back", 1).due(0, "back", 0);
        book.run().due(0, "keep", 1).refused(-2, "back", 0).due(0, "back", 1);
        Run run = book.fullRun().refused(-1, "back", -1).refused(-1, "back", 2).refused(-1, "back", LEAST).refused(-1, "back", MOST);
        run.due(1, "back", 0).due(1, "count", 3).due(1, "count", 4).due(0, "hat", 0).due(-9, "hat", 1).due(5, "right", 1)
                .due(-20, "right", 2);
        run.due(2, "back", 1).due(2, "count", 3).due(2, "count", 4).due(0, "hat", 0).due(2, "hat", 1).due(3, "right", 2)
                .due(-20, "right", 3);
        run.due(2, "back", 1).due(1, "back", 0).due(1, "back", 0);
    }

    private void trace() {
        book.promise(33, "THE TRACE.");
        book.run().due(0, "trace");
        // the greatest that a run can come to
        Run run = book.run().tell("picture 0 0 0 1 0;");
        long trace = 0;
        for (int k = 0; k < 500; k++) {
            run.call("rate", 5, 0);
            trace += TRACES[5];
        }
        run.due(trace, "trace").tell("").due(trace, "trace");
    }

    /** As many calls as an album is used for, with all full: the last one is answered as the first. */
    private void calls() {
        book.says("What it is", "An object is used for at most 512 calls after it has been made;");
        Run run = book.run().tell("square 12 12;" + "person 4 5 4 0 99 0;".repeat(8) + "picture 0 5 0 9 0;".repeat(10));
        for (int k = 0; k < 20; k++) {
            run.call("fact", k % 4, 5 * k, (k + 1) % 4, 5 * k % 7);
        }
        for (int k = 0; k < 8; k++) {
            run.call("seen", k, k, 3 * k, 0);
        }
        for (int k = run.calls(); k < 512; k++) {
            askDearest(run, k % 6);
        }
    }

    private static void askDearest(Run run, int which) {
        switch (which) {
            case 0 -> run.due(0, "from", 1, 9, 0, 0);
            case 1 -> run.due(-9, "empty", 9, 0);
            case 2 -> run.due(0, "lost");
            case 3 -> run.due(3, "rule", 9);
            case 4 -> run.due(1, "joined");
            default -> run.due(255, "shows", 9);
        }
    }
}
