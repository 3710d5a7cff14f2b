/** Promises 41 and 42 (and 5): book, booked, the FAULTS of a BOOK. */
public final class BookTest {
    private static final String TEXT = "house h;owner o;owner p;owner q;room a h o;room b h p;room c h q;"
        + "door a b;robe b c;at o a;leave p o;heir o p;";

    public static void main(String[] args) {
        faults();
        lines();
        length();
        whys();
        judgedOrLived();
        kept();
        Check.close();
    }

    private static void fault(String text, int place, int kind) {
        WardrobeRow row = Check.row(TEXT);
        Check.due("'" + text + "'", Check.book(row, text, 1), -2 - place);
        Check.due("kind of '" + text + "'", row.fault(), kind);
        Check.due("nothing judged", row.booked(0), -1);
        Check.due("nothing lived", row.undo(), -1);
        Check.due("empty tape", row.count(5), 0);
    }

    private static void faults() {
        fault("o", 1, 1);
        fault("o goes a", 8, 1);
        fault("o goes;", 6, 1);
        fault("o goes o;", 7, 3);
        fault("o goes x;", 7, 3);
        fault("x goes a;", 0, 3);
        fault("a goes a;", 0, 3);
        fault("h goes a;", 0, 3);
        fault("o o;", 2, 1);
        fault("o a;", 2, 1);
        fault("o burns a;", 2, 1);
        fault("goes a;", 0, 1);
        fault("house x;", 0, 1);
        fault("5;", 0, 1);
        fault(";", 0, 1);
        fault("o goes goes;", 7, 1);
        fault("o sells a;", 9, 1);
        fault("o sells p a;", 8, 3);
        fault("o sells a b;", 10, 3);
        fault("o lets a;", 7, 3);
        fault("o bars 1;", 7, 1);
        fault("o wills not;", 8, 1);
        fault("o dies a;", 7, 1);
        fault("shuts 20;", 6, 2);
        fault("opens 99;", 6, 2);
        fault("opens 100;", 6, 1);
        fault("shuts a;", 6, 1);
        fault("burns p;", 6, 3);
        fault("minute 0;", 7, 2);
        fault("minute 61;", 7, 2);
        fault("minute;", 6, 1);
        fault("o dies;q dies;\n$", 15, 1);
    }

    private static String times(String line, int many) {
        return line.repeat(many);
    }

    private static void lines() {
        WardrobeRow row = Check.row(TEXT);
        Check.due("40 lines", Check.book(row, times("minute 1;", 40), 0), -1);
        Check.due("40 right", row.booked(1), 40);
        String forty = times("q dies;", 40);
        fault(forty + "o dies;", 280, 4);
        fault(forty + " minute 0;", 281, 4);
        fault(forty + "x dies;", 280, 3);
        fault(forty + "a dies;", 280, 3);
        fault(forty + "dies;", 280, 1);
        fault(forty + ";", 280, 1);
    }

    private static String padded(String text, int bytes) {
        return text + " ".repeat(bytes - text.length());
    }

    private static void length() {
        WardrobeRow row = Check.row(TEXT);
        Check.due("400", Check.book(row, padded("q dies;", 400), 0), -1);
        Check.due("no FAULT", row.fault(), 0);
        fault(padded("q dies;", 401), 400, 1);
        fault(padded("q dies;", 399) + "o dies;", 400, 1);
        fault(padded("q dies;", 399) + "xx dies;", 399, 3);
        fault(padded("q dies;", 398) + "minutes 1;", 398, 3);
        fault(padded("minute", 399) + "600;", 399, 1);
        fault(padded("minute", 399) + "61;", 399, 2);
        fault(padded("minute", 399) + "60;", 400, 1);
    }

    private static void why(String text, int line, int why) {
        WardrobeRow row = Check.row(TEXT);
        Check.due("'" + text + "'", Check.book(row, text, 0), line);
        Check.due("why '" + text + "'", row.booked(0), why);
        Check.due("lines right of '" + text + "'", row.booked(1), line);
        Check.due("no FAULT", row.fault(), 0);
    }

    private static void whys() {
        why("o dies;o goes b;", 1, 1);
        why("burns b;o goes b;", 1, 2);
        why("o goes c;", 0, 3);
        why("o goes b;o goes c;", 1, 4);
        why("q dies;q sells c o;", 1, 11);
        why("o sells b p;", 0, 12);
        why("burns b;p sells b o;", 1, 13);
        why("p sells b p;", 0, 19);
        why("p dies;p sells b p;", 1, 19);
        why("q dies;q lets o;", 1, 21);
        why("p lets o;", 0, 22);
        why("p lets p;", 0, 29);
        why("q dies;p bars q;", 1, 31);
        why("p bars q;", 0, 32);
        why("p bars p;", 0, 39);
        why("p dies;o wills p;", 1, 41);
        why("o wills p;", 0, 42);
        why("q dies;q wills q;", 1, 49);
        why("o dies;o dies;", 1, 51);
        why("shuts 1;", 0, 61);
        why("shuts 0;shuts 0;", 1, 62);
        why("shuts 2;", 0, 69);
        why("opens 1;", 0, 71);
        why("opens 0;", 0, 72);
        why("opens 2;", 0, 79);
        why("opens 19;", 0, 79);
        why("shuts 19;", 0, 69);
        why("burns a;burns a;", 1, 81);
        why("minute 60;".repeat(16) + "minute 39;minute 1;", 17, 91);
    }

    private static void judgedOrLived() {
        WardrobeRow row = Check.row(TEXT);
        Check.due("ahead of any", row.booked(0) + row.booked(1) + row.booked(2) + row.booked(3), -4);
        String text = "o goes b;p lets q;q wills o;p sells b q;shuts 0;minute 3;burns c;minute 1;o dies;q dies;";
        Check.due("judged", Check.book(row, text, 0), 8);
        Check.due("why", row.booked(0), 51);
        Check.due("right", row.booked(1), 8);
        Check.due("minute then", row.booked(2), 4);
        Check.due("o burnt in b", row.booked(3), 1);
        Check.due("all stays", row.now(0) + row.now(1) + row.now(2) + row.now(4) + row.now(5), 0);
        Check.due("nothing to undo", row.undo(), -1);
        Check.due("lived", Check.book(row, text, 1), 8);
        Check.due("minute", row.now(0), 4);
        Check.due("dead", row.now(1), 1);
        Check.due("burnt", row.now(2), 0b110);
        Check.due("sales", row.now(4), 1);
        Check.due("goings", row.now(5), 1);
        Check.due("died in it", row.booked(3), 1);
        Check.due("another", Check.book(row, "p dies;", 1), -1);
        Check.due("died in that one alone", row.booked(3), 2);
        Check.due("why not", row.booked(0), 0);
        Check.due("undone", row.undo(), 1);
        Check.due("p lives", row.now(1), 1);
        Check.due("undone whole", row.undo(), 0);
        Check.due("as at first", row.now(0) + row.now(1) + row.now(2) + row.now(4) + row.now(5), 0);
        Check.due("what it told stays", row.booked(3), 2);
        Check.due("booked(4), booked(-1)", row.booked(4) + row.booked(-1), -2);
    }

    private static void kept() {
        WardrobeRow row = Check.row(TEXT);
        Check.book(row, "o goes c;", 0);
        Check.due("a FAULT", Check.book(row, "o goes", 0), -8);
        Check.due("booked stays", row.booked(0), 3);
        Check.tape(row, "o goes b;");
        Check.due("another lives", row.book(2), -1000);
        Check.due("another lives", row.book(-1), -1000);
        Check.due("the tape stays", row.count(5), 9);
        Check.due("fault stays", row.fault(), 1);
        Check.due("booked stays", row.booked(0), 3);
        Check.due("lived then", row.book(1), -1);
        Check.due("fault then", row.fault(), 0);
        Check.due("there", row.owner(0, 0), 1);
        Check.due("an empty one", Check.book(row, " ", 0), -1);
        Check.due("no lines", row.booked(1), 0);
        WardrobeRow empty = new WardrobeRow();
        Check.due("no names told", Check.book(empty, "o dies;", 0), -2);
        Check.due("kind", empty.fault(), 3);
        Check.due("a minute can be", Check.book(empty, "minute 60;shuts 0;", 1), 1);
        Check.due("no PASSAGE", empty.booked(0), 69);
        Check.due("minute", empty.now(0), 60);
    }
}
