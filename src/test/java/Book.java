import java.nio.file.Path;

/** What the tests of the bounds write in: the document's words that are looked at, and the answers. */
final class Book {
    final Due due = new Due();
    private final Document document;
    private String words = "";

    Book(Path file) throws java.io.IOException {
        document = new Document(file);
    }

    /** The words that the next runs hold to: of the terms, of a promise, of any section. */
    void terms(String said) {
        says("Terms", said);
    }

    void promise(int number, String said) {
        says("Promise " + number, said);
    }

    void says(String heading, String said) {
        words = heading + " \"" + said + "\"";
        due.due("the document says: " + words, document.says(heading, said) ? 1 : 0, 1);
    }

    Run run() {
        return new Run(due, words);
    }

    /** A run with something of everything, so that a change shows wherever it is made. */
    Run fullRun() {
        return run().tell("square 5 4;wall 1 2;person 3 3 3 0 9 4;person 0 0 0 1 3 2;picture 0 3 0 4 0;picture 4 3 3 3 1;"
                + "picture 0 3 0 4 2;").call("fact", 0, 10, 1, 15).call("seen", 4, 3, 7, 2).call("has", 0, 1).call("keep", 0)
                .call("fact", 1, 3, 2, 1).call("seen", 0, 0, 0, 0).call("has", 2, 0).call("keep", 1).call("fact", 0, 10, 3, 5)
                .call("has", 1, 1).call("rate", 3, 0).write("wall 2 2;wall 3 0");
    }

    /** A text that tells so many items. */
    void sound(String text, int items) {
        run().write(text).due(text.length(), "count", 5).due(items, "square").due(0, "count", 5);
    }

    /** A text that has a fault: it is refused, and nothing is changed by it, the text neither. */
    void fault(String text, int place) {
        fullRun().call("clear").write(text).refused(-10 - place, "square");
    }

    void end() {
        for (String left : document.left()) {
            due.due("words that no test holds to: " + left, 1, 0);
        }
        due.end();
    }
}
