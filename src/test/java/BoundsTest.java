import java.io.IOException;
import java.nio.file.Path;

/** Every sentence of the document that names a bound: the number at it and the one beyond, the empty, the full, the refused. */
public final class BoundsTest {
    public static void main(String[] args) throws IOException {
        Book book = new Book(Path.of(System.getProperty("project", "."), "..", "shared", "DOC.md"));
        SquareBounds.all(book);
        TextBounds.all(book);
        SightBounds.all(book);
        ClockBounds.all(book);
        HatBounds.all(book);
        ToldBounds.all(book);
        KindBounds.all(book);
        book.end();
    }
}
