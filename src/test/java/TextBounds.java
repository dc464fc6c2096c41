import java.util.ArrayList;
import java.util.List;

/** The bounds of the text, its tokens and its faults, as the terms tell them. */
final class TextBounds {
    private static final String[] ITEMS = {"square 5 6 ;", "wall 2 1 ;", "person 3 4 1 5 6 7 ;", "picture 1 2 3 4 5 ;"};

    private final Book book;

    private TextBounds(Book book) {
        this.book = book;
    }

    static void all(Book book) {
        TextBounds bounds = new TextBounds(book);
        bounds.length();
        bounds.blanks();
        bounds.ends();
        bounds.squareFirst();
        bounds.itemsOfAll();
        bounds.cellsOfTheSquare();
        bounds.words();
        bounds.firstWrongToken();
        bounds.tooMany();
        bounds.beyond();
        bounds.noToken();
        bounds.wrongNumbers();
        bounds.endsTooEarly();
    }

    private void length() {
        book.terms("They are a text (400 bytes at most),");
        book.sound("", 0);
        book.sound(" ", 0);
        book.sound(" ".repeat(400), 0);
        book.sound(" ".repeat(391) + "wall 7 7;", 1);
        book.run().write(" ".repeat(391) + "wall 7 7;").refused(-3, "type", ' ', 1).due(1, "square").due(1, "wall", 7, 7);
        book.run().write(" ".repeat(390) + "wall 7 7;").due(400, "type", ' ', 1).refused(-3, "type", ' ', 1).due(1, "square");
        book.fault(" ".repeat(399) + ";", 399);
        book.fault(" ".repeat(392) + "wall 7 7", 400);
    }

    /** Each byte that there is, at each sort of place in "wall 1 2;". */
    private void blanks() {
        book.terms("read byte by byte, blanks (32) between TOKENS;");
        for (int b = 0; b < 256; b++) {
            String sign = String.valueOf((char) b);
            boolean isBlank = b == ' ';
            boolean isDigit = b >= '0' && b <= '9';
            soundOrFault(sign + "wall 1 2;", isBlank ? -1 : 0);
            soundOrFault("wall" + sign + "1 2;", isBlank ? -1 : b >= 'a' && b <= 'z' ? 0 : 4);
            soundOrFault("wall 1" + sign + "2;", isBlank ? -1 : isDigit ? 5 : 6);
            soundOrFault("wall 1 2" + sign, b == ';' ? -1 : isBlank ? 9 : isDigit ? 7 : 8);
            soundOrFault("wall 1 2;" + sign, isBlank ? -1 : 9);
            soundOrFault("wal" + sign + " 1 2;", b == 'l' ? -1 : 0);
            soundOrFault("wall " + sign + " 2;", b >= '0' && b <= '7' ? -1 : isBlank ? 8 : 5);
        }
        book.sound("wall 1 2;wall 3 4;", 2);
        book.sound("   wall   1   2   ;   wall   3   4   ;   ", 2);
    }

    /** A text of one item that is sound, if the fault is below 0. */
    private void soundOrFault(String text, int fault) {
        if (fault < 0) {
            book.sound(text, 1);
        } else {
            book.run().tell("wall 6 6;").write(text).due(-10 - fault, "square").due(text.length(), "clear").due(1, "count", 2)
                    .due(1, "wall", 6, 6);
        }
    }

    private void ends() {
        book.terms("ITEMS, each ended by ; :");
        for (String item : ITEMS) {
            String open = item.substring(0, item.length() - 1);
            book.sound(item, 1);
            book.fault(open, open.length());
            book.fault(open + "wall 0 0;", open.length());
            book.fault(item + ";", item.length());
            book.fault(open + "0;", open.length());
        }
        book.fault(";", 0);
        book.fault(";wall 0 0;", 0);
    }

    private void squareFirst() {
        book.terms("square W H (the first of all, if it is told) ;");
        book.run().tell("square 3 12;wall 2 11;").due(3, "count", 6).due(12, "count", 7);
        book.run().tell("square 3 12;").tell("wall 7 7;").due(8, "count", 6).due(8, "count", 7).due(1, "wall", 7, 7);
        book.run().tell("square 12 3;").tell("").due(8, "count", 6).due(8, "count", 7);
        book.run().tell("  square 4 4;").due(4, "count", 6);
        for (String item : ITEMS) {
            book.fault(item + "square 5 6;", item.length());
        }
        book.fault("square 5 6;wall 0 0;square 5 6;", 20);
        book.fault("square square 5 6;", 7);
    }

    private void itemsOfAll() {
        book.terms("wall X Y ; person X Y D S N M ; picture X Y D R T");
        book.run().tell(String.join("", ITEMS)).due(5, "count", 6).due(6, "count", 7).due(1, "wall", 2, 1)
                .due(3, "person", 0, 0).due(4, "person", 0, 1).due(1, "person", 0, 2).due(5, "person", 0, 3).due(6, "person", 0, 4)
                .due(7, "person", 0, 5).due(1, "picture", 0, 0).due(2, "picture", 0, 1).due(3, "picture", 0, 2)
                .due(4, "picture", 0, 3).due(5, "picture", 0, 4);
        for (String item : ITEMS) {
            // a number too few, a number too many
            String few = item.substring(0, item.length() - 3);
            book.fault(few + ";", few.length());
            book.fault(item.replace(";", "0;"), item.length() - 1);
        }
        // those that are told first have the lesser numbers, whatever is told between them
        book.run().tell("picture 1 1 1 1 1;person 1 1 1 1 1 1;wall 0 0;picture 2 2 2 2 2;person 2 2 2 2 2 2;")
                .due(1, "picture", 0, 4).due(2, "picture", 1, 4).due(1, "person", 0, 5).due(2, "person", 1, 5);
    }

    private void cellsOfTheSquare() {
        book.terms("(cells of THE SQUARE).");
        String[] ahead = {"wall ", "person ", "picture "};
        String[] behind = {";", " 0 0 0 0;", " 0 1 0;"};
        int[][] sides = {{8, 8}, {3, 3}, {3, 12}, {12, 3}, {12, 12}, {10, 9}};
        for (int[] side : sides) {
            String square = side[0] == 8 ? "" : "square " + side[0] + " " + side[1] + ";";
            int told = square.isEmpty() ? 0 : 1;
            for (int k = 0; k < ahead.length; k++) {
                String start = square + ahead[k];
                String last = String.valueOf(side[0] - 1);
                book.sound(start + "0 0" + behind[k], 1 + told);
                book.sound(start + last + " " + (side[1] - 1) + behind[k], 1 + told);
                book.fault(start + side[0] + " 0" + behind[k], start.length());
                book.fault(start + "0 " + side[1] + behind[k], start.length() + 2);
                book.fault(start + last + " " + side[1] + behind[k], start.length() + last.length() + 1);
            }
        }
        // the square that was there ahead of the text is of no weight
        book.run().tell("square 12 12;").write("wall 8 0;").refused(-15, "square");
        book.run().tell("square 3 3;").write("wall 7 7;").due(1, "square");
    }

    private void words() {
        book.terms("TOKENS are words of letters a .. z (square, wall, person, picture), NUMBERS and ; .");
        // a token ends where another one begins
        book.sound("square5 5;wall4 4;person0 0 0 0 0 0;picture0 0 0 1 0;", 4);
        book.sound("wall 0 0;wall 1 1;", 2);
        book.fault("wall 0wall 0;", 6);
        book.fault("wall 0 0wall 0 0;", 8);
        book.fault("`wall 0 0;", 0);
        book.fault("{wall 0 0;", 0);
        book.fault("wall` 0 0;", 4);
        book.fault("wall{ 0 0;", 4);
        book.fault("Wall 0 0;", 0);
        book.fault("walL 0 0;", 0);
        book.fault("wall /0 0;", 5);
        book.fault("wall :0 0;", 5);
        book.fault("wall 0/ 0;", 6);
        book.fault("wall 0: 0;", 6);
        book.fault("wall 0 0 :", 9);
        book.fault("wall 0 0 <", 9);
    }

    /** Each token of each item in turn is another one that can't stand there. */
    private void firstWrongToken() {
        book.terms("FAULT: the place of the first byte of the first TOKEN that can't stand there");
        String[] others = {"wall", "square", "person", "picture", "0", ";", "walls", "?", "100", "00"};
        for (String item : ITEMS) {
            List<String> tokens = List.of(item.split(" "));
            for (int k = 0; k < tokens.size(); k++) {
                for (String other : others) {
                    if (sortOf(other) != sortOf(tokens.get(k))) {
                        List<String> wrong = new ArrayList<>(tokens);
                        wrong.set(k, other);
                        int place = k == 0 ? 0 : String.join(" ", tokens.subList(0, k)).length() + 1;
                        book.fault(String.join(" ", wrong), place);
                        // it is the first that counts, whatever is wrong behind it
                        book.fault(String.join(" ", wrong) + " ? walls 100 00 ; ;", place);
                    }
                }
            }
        }
        book.fault("wall 0 0;wall 9 walls", 14);
        book.fault("wall 0 walls 9", 7);
    }

    private static int sortOf(String token) {
        return token.matches("square|wall|person|picture") ? 1 : token.matches("[0-9][0-9]?") && !token.equals("00") ? 2
                : token.equals(";") ? 3 : 4;
    }

    private void tooMany() {
        String person = "person 0 0 0 0 0 0;";
        String picture = "picture 0 0 0 1 0;";
        book.terms("(square behind another ITEM, a ninth person, an eleventh picture,");
        book.fault("wall 0 0;square 8 8;", 9);
        book.sound(person.repeat(8), 8);
        book.fault(person.repeat(8) + person, 152);
        book.fault(person.repeat(8) + "person", 152);
        book.fault(person.repeat(8) + "wall 0 0; person 9 9", 162);
        book.fault(person.repeat(8) + "person?", 152);
        book.sound(picture.repeat(10), 10);
        book.fault(picture.repeat(10) + picture, 180);
        book.fault(picture.repeat(10) + "picture", 180);
        book.fault(picture.repeat(10) + "wall 0 0; picture 9 9", 190);
        book.sound(picture.repeat(10) + person.repeat(8), 18);
        book.fault(picture.repeat(10) + person.repeat(8) + person, 332);
        book.fault(person.repeat(8) + picture.repeat(10) + picture, 332);
        // a word that only begins so is none of these
        book.fault(person.repeat(8) + "persons", 152);
    }

    private void beyond() {
        book.terms("a NUMBER beyond what it may be, too);");
        book.fault("square 2 2;", 7);
        book.fault("square 13 2;", 7);
        book.fault("square 3 2;", 9);
        book.fault("wall 8 8;", 5);
        book.fault("wall 7 8;", 7);
        book.fault("person 8 8 5 0 0 10;", 7);
        book.fault("person 7 8 5 0 0 10;", 9);
        book.fault("person 7 7 5 0 0 10;", 11);
        book.fault("person 7 7 4 0 0 10;", 17);
        book.fault("picture 8 8 4 0 0;", 8);
        book.fault("picture 7 8 4 0 0;", 10);
        book.fault("picture 7 7 4 0 0;", 12);
        book.fault("picture 7 7 3 0 0;", 14);
        book.fault("picture 7 7 3 10 0;", 14);
        book.sound("picture 7 7 3 9 99;", 1);
    }

    private void noToken() {
        book.terms("of a byte that begins none, a word that is none of these,");
        String[] wrong = {"?", "-", "+", ",", ".", "A", "Z", "\t", "\n", "\r", "\0", "\u007f", "\u0080", "\u00a0", "\u00e9",
            "\u00f7", "\u00ff"};
        for (String sign : wrong) {
            book.fault(sign, 0);
            book.fault("wall" + sign + "0 0;", 4);
            book.fault("wall " + sign + "0 0;", 5);
            book.fault("wall 0" + sign + "0;", 6);
            book.fault("wall 0 0" + sign + ";", 8);
            book.fault("wall 0 0;" + sign, 9);
        }
        String[] words = {"a", "z", "s", "squar", "squares", "ssquare", "walls", "wal", "wwall", "persons", "perso", "pperson",
            "pictures", "pictur", "ppicture", "wallwall", "squarewall", "abcdefghwall", "abcdefghsquare", "abcdefghijpicture",
            "erauqs", "z".repeat(300)};
        for (String word : words) {
            book.fault(word, 0);
            book.fault(word + " 3 3;", 0);
            book.fault("wall 0 0; " + word + " 3 3;", 10);
        }
    }

    private void wrongNumbers() {
        book.terms("a NUMBER above 99 or with a 0 ahead of others, that TOKEN's;");
        String[] wrong = {"100", "101", "199", "999", "1000", "00", "01", "07", "09", "000", "001", "0100", "010", "256", "65536",
            "2147483648", "4294967296", "4294967297", "18446744073709551616", "18446744073709551617", "1" + "0".repeat(200),
            "0".repeat(200), "9".repeat(200)};
        for (String number : wrong) {
            book.fault("person 0 0 0 " + number + " 0 0;", 13);
            book.fault("person 0 0 0 0 " + number + " 0;", 15);
            book.fault("picture 0 0 0 1 " + number + ";", 16);
            book.fault("wall " + number + " 0;", 5);
            book.fault(number, 0);
            book.fault("wall 0 0" + " " + number, 9);
        }
        book.run().tell("person 0 0 0 99 0 0;person 0 0 0 0 99 0;picture 0 0 0 1 99;picture 0 0 0 1 0;").due(99, "person", 0, 3)
                .due(0, "person", 0, 4).due(99, "person", 1, 4).due(99, "picture", 0, 4).due(0, "picture", 1, 4);
        book.sound("person 0 0 0 10 90 0;", 1);
    }

    /** Each beginning of a text that does not end with an item. */
    private void endsTooEarly() {
        book.terms("the text's length, if it ends too early.");
        for (String item : ITEMS) {
            List<String> tokens = List.of(item.split(" "));
            for (int k = 1; k < tokens.size(); k++) {
                String start = String.join(" ", tokens.subList(0, k));
                book.fault(start, start.length());
                book.fault(start + " ", start.length() + 1);
                book.fault(start + "     ", start.length() + 5);
            }
        }
        String most = " ".repeat(393);
        book.fault(most + "wall 0 ", 400);
        book.fault(most + "wall0 0", 400);
        book.fault(" ".repeat(394) + "square", 400);
        book.fault("wall 0 0" + " ".repeat(392), 400);
    }
}
