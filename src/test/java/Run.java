import java.util.ArrayList;
import java.util.List;

/**
 * A run of calls on one album. What must be refused is asked of another album with the same past, whose answers are then
 * compared with those of a third one that was not asked: so every refusal is looked at for what it may have changed.
 */
final class Run {
    /** Beyond these an album may answer anything. */
    private static final int CALLS_MOST = 512;

    private final Due due;
    private final String of;
    private final SquareAlbum album = new SquareAlbum();
    private final List<Call> past = new ArrayList<>();

    /** What the album that was not asked is asked and answers; null, if the past has grown. */
    private List<Call> questions = null;
    private List<Long> answers = null;

    Run(Due due, String of) {
        this.due = due;
        this.of = of;
    }

    Run call(String name, long... numbers) {
        make(new Call(name, numbers));
        return this;
    }

    Run write(String text) {
        for (Call call : writing(text)) {
            make(call);
        }
        return this;
    }

    Run tell(String text) {
        write(text);
        if (make(new Call("square")) < 0) {
            throw new IllegalStateException("a test's text has a fault: " + text);
        }
        return this;
    }

    Run due(long want, String name, long... numbers) {
        Call call = new Call(name, numbers);
        due.due(of + ": " + call, make(call), want);
        return this;
    }

    Run refused(long want, String name, long... numbers) {
        Call call = new Call(name, numbers);
        if (questions == null) {
            SquareAlbum unasked = again();
            questions = questionsFor(unasked);
            answers = answers(unasked);
            if (past.size() + 1 + questions.size() > CALLS_MOST) {
                throw new IllegalStateException("a run is too long: " + of);
            }
        }
        SquareAlbum asked = again();
        due.due(of + ": " + call, call.on(asked), want);
        List<Long> now = answers(asked);
        for (int k = 0; k < now.size(); k++) {
            due.due(of + ": " + call + ", and then " + questions.get(k), now.get(k), answers.get(k));
        }
        return this;
    }

    /** How many the album has been asked. */
    int calls() {
        return past.size();
    }

    private long make(Call call) {
        if (past.size() >= CALLS_MOST) {
            throw new IllegalStateException("a run is too long: " + of);
        }
        past.add(call);
        questions = null;
        return call.on(album);
    }

    private SquareAlbum again() {
        SquareAlbum other = new SquareAlbum();
        for (Call call : past) {
            call.on(other);
        }
        return other;
    }

    private List<Long> answers(SquareAlbum of) {
        List<Long> all = new ArrayList<>();
        for (Call question : questions) {
            all.add(question.on(of));
        }
        return all;
    }

    private static List<Call> writing(String text) {
        List<Call> all = new ArrayList<>();
        for (int from = 0; from < text.length(); from += 8) {
            int to = Math.min(from + 8, text.length());
            long bytes = 0;
            for (int k = from; k < to; k++) {
                bytes = bytes << 8 | text.charAt(k);
            }
            all.add(new Call("type", bytes, to - from));
        }
        return all;
    }

    /** All that can be asked of what there is: first what changes nothing, then the rest. */
    private static List<Call> questionsFor(SquareAlbum there) {
        List<Call> all = new ArrayList<>();
        askScene(all, there.count(0), there.count(1), there.count(6), there.count(7));
        askNotes(all);
        for (int i = 0; i < there.count(1); i++) {
            all.add(new Call("has", i, 2));
        }
        for (int image = 0; image < 2; image++) {
            all.add(new Call("back", image));
            askNotes(all);
        }
        all.add(new Call("fact", 0, 0, 1, 0));
        all.add(new Call("seen", 0, 0, 0, 0));
        all.add(new Call("forget"));
        all.add(new Call("type", ';', 1));
        all.add(new Call("square"));
        askCells(all, 8, 8);
        askCounts(all);
        all.add(new Call("clear"));
        return all;
    }

    private static void askScene(List<Call> all, int people, int pictures, int wide, int high) {
        askCounts(all);
        askCells(all, wide, high);
        for (int p = 0; p < people; p++) {
            for (int what = 0; what < 6; what++) {
                all.add(new Call("person", p, what));
            }
            all.add(new Call("where", p, 1));
        }
        for (int i = 0; i < pictures; i++) {
            for (int what = 0; what < 5; what++) {
                all.add(new Call("picture", i, what));
            }
            all.add(new Call("shows", i));
            all.add(new Call("empty", i, 0));
        }
        all.add(new Call("lost"));
        all.add(new Call("rule", 1));
        all.add(new Call("from", 0, 9, 0, 0));
        all.add(new Call("view", 0, 0, 0, 9, 1));
    }

    private static void askCounts(List<Call> all) {
        for (int what = 0; what < 8; what++) {
            all.add(new Call("count", what));
        }
        all.add(new Call("trace"));
    }

    /** Of a great square one cell of five, by turns in all rows and columns. */
    private static void askCells(List<Call> all, int wide, int high) {
        int every = wide * high > 25 ? 5 : 1;
        for (int cell = 0; cell < wide * high; cell += every) {
            all.add(new Call("wall", cell % wide, cell / wide));
        }
    }

    private static void askNotes(List<Call> all) {
        all.add(new Call("count", 3));
        all.add(new Call("count", 4));
        for (int what = 0; what < 4; what++) {
            all.add(new Call("right", what));
        }
        all.add(new Call("joined"));
        all.add(new Call("hat", 0));
        all.add(new Call("hat", 1));
        all.add(new Call("near", 0, 0, 11));
    }
}
