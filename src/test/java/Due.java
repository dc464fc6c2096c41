/** What the tests share: telling an album a text, and comparing answers with those that are due. */
final class Due {
    private int wrong = 0;
    private int looked = 0;

    void due(String call, long got, long want) {
        looked++;
        if (got != want) {
            wrong++;
            System.out.println(call + " answered " + got + ", due is " + want);
        }
    }

    void end() {
        System.out.println(wrong + " of " + looked + " answers are not as due");
        if (wrong != 0 || looked == 0) {
            System.exit(1);
        }
    }

    static void write(SquareAlbum album, String text) {
        for (int k = 0; k < text.length(); k++) {
            album.type(text.charAt(k), 1);
        }
    }

    /** Tells an album a text; what square() answers. */
    static int tell(SquareAlbum album, String text) {
        write(album, text);
        return album.square();
    }

    /** A new album of a text that has no fault. */
    static SquareAlbum album(String text) {
        SquareAlbum album = new SquareAlbum();
        if (tell(album, text) < 0) {
            throw new IllegalStateException("a test's text has a fault: " + text);
        }
        return album;
    }
}
