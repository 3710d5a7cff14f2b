/**
 * The edges of texts: what a TOKEN is, where a FAULT stands, how much a TERRACE, a BOOK and a SENTENCE may hold. Each
 * method is about the sentence of the document that it names.
 */
public final class TextEdgeTest {
    /** Houses h, i; owners o, p, q; rooms r, s, t; passages 0 r-s (a door), 1 s-t (a robe). */
    private static final String TOLD = "house h;house i;owner o;owner p;owner q;room r h o;room s h p;room t i q;"
        + "door r s;robe s t;";
    private static final String[] WORDS = ("house owner room door robe at leave heir likes goes sells lets bars dies wills"
        + " shuts opens burns minute or and not burnt free of in people doors worth number").split(" ");

    public static void main(String[] args) {
        blanks();
        wordLetters();
        numberDigits();
        signs();
        runsGoOn();
        anEmptyText();
        theEnd();
        moreBytes();
        tokensReadWhole();
        firstAlongTheText();
        leastOfOneToken();
        keptWithAFault();
        faultKinds();
        Check.close();
    }

    private static void terrace(String text, int place, int kind) {
        WardrobeRow row = Check.row(TOLD);
        String before = Check.seen(row);
        Check.due("terrace() of '" + text + "'", Check.terrace(row, text), -1 - place);
        Check.due("fault() of '" + text + "'", row.fault(), kind);
        Check.due("bytes behind '" + text + "'", row.count(5), 0);
        Check.dueText("it stays behind '" + text + "'", Check.seen(row), before);
    }

    private static void terraceOf(String text, int lines) {
        WardrobeRow row = new WardrobeRow();
        Check.due("terrace() of '" + text + "'", Check.terrace(row, text), lines);
        Check.due("fault() of '" + text + "'", row.fault(), 0);
        Check.due("bytes behind '" + text + "'", row.count(5), 0);
    }

    private static void book(String text, int place, int kind) {
        for (int lives = 0; lives <= 1; lives++) {
            WardrobeRow row = Check.row(TOLD);
            String before = Check.seen(row);
            Check.due("book(" + lives + ") of '" + text + "'", Check.book(row, text, lives), -2 - place);
            Check.due("fault() of '" + text + "'", row.fault(), kind);
            Check.due("bytes behind '" + text + "'", row.count(5), 0);
            Check.due("booked(0) behind '" + text + "'", row.booked(0), -1);
            Check.dueText("all stays behind '" + text + "'", Check.seen(row), before);
            Check.due("undo() behind '" + text + "'", row.undo(), -1);
        }
    }

    private static void bookOf(String text, int line, int why, int right) {
        WardrobeRow row = Check.row(TOLD);
        Check.due("book(0) of '" + text + "'", Check.book(row, text, 0), line);
        Check.due("fault() of '" + text + "'", row.fault(), 0);
        Check.due("booked(0) of '" + text + "'", row.booked(0), why);
        Check.due("booked(1) of '" + text + "'", row.booked(1), right);
        Check.due("bytes behind '" + text + "'", row.count(5), 0);
    }

    private static void sentence(String text, int place, int kind) {
        WardrobeRow row = Check.row(TOLD);
        Check.sentence(row, "number = 1");
        Check.due("sentence() of '" + text + "'", Check.sentence(row, text), -1 - place);
        Check.due("fault() of '" + text + "'", row.fault(), kind);
        Check.due("bytes behind '" + text + "'", row.count(5), 0);
        Check.due("it stays behind '" + text + "'", row.said(0), 1);
    }

    private static void sentenceOf(String text, int ones) {
        WardrobeRow row = Check.row(TOLD);
        Check.due("sentence() of '" + text + "'", Check.sentence(row, text), ones);
        Check.due("fault() of '" + text + "'", row.fault(), 0);
        Check.due("bytes behind '" + text + "'", row.count(5), 0);
        Check.due("there is one behind '" + text + "'", row.said(-1) >= 0, true);
    }

    private static void blanks() {
        Check.about("with blanks (32, 10) between them or not");
        terraceOf("house h;owner o;", 2);
        terraceOf("house\nh\n;\n\nowner  \n o ; \n", 2);
        terraceOf("\n house h;", 1);
        bookOf("o dies;minute 5;", -1, 0, 2);
        bookOf(" o\ndies ;\n", -1, 0, 1);
        sentenceOf("not(burnt)or people<5", 4);
        sentenceOf("\nnot ( burnt )\nor people < 5 ", 4);
        for (int b = 0; b < 256; b++) {
            char c = (char) b;
            boolean letter = c >= 'a' && c <= 'z';
            boolean digit = c >= '0' && c <= '9';
            if (b == 32 || b == 10) {
                terraceOf("house x" + c + ";", 1);
                terraceOf(c + "house x;", 1);
                terraceOf("house x;" + c, 1);
            } else {
                terrace(c + "house x;", 0, 1);
                terrace("house x;" + c, 8, 1);
                terrace("house" + c + "x;", letter || digit ? 0 : 5, 1);
            }
            if (digit) {
                terrace("house x" + c + ";", 6, 1);
            } else if (letter) {
                terraceOf("house x" + c + ";", 1);
            } else if (b != 32 && b != 10) {
                terrace("house x" + c + ";", c == ';' ? 8 : 7, 1);
            }
        }
    }

    private static void wordLetters() {
        Check.about("WORDS: small letters, 1 to 7");
        terraceOf("house a;", 1);
        terraceOf("house abcdefg;", 1);
        terraceOf("house zzzzzzz;house z;", 2);
        terrace("house abcdefgh;", 6, 1);
        terrace("house abcdefghijklmnopqrstuvwxyzabcdefghijklmnopqrstuvwxyz;", 6, 1);
        terrace("house A;", 6, 1);
        terrace("house aB;", 7, 1);
        terrace("housesss x;", 0, 1);
        book("abcdefgh dies;", 0, 1);
        book("abcdefg dies;", 0, 3);
        sentence("of abcdefgh", 3, 1);
        sentence("of abcdefg", 3, 3);
        // seven letters keep apart what six of them would not
        terraceOf("owner abcdefg;owner abcdefh;owner bbcdefg;owner abcdef;", 4);
    }

    private static void numberDigits() {
        Check.about("NUMBERS: 1 to 2 digits");
        String head = TOLD + "likes o r ";
        terraceOf(head + "1;", 11);
        terraceOf(head + "01;", 11);
        terrace(head + "001;", head.length(), 1);
        terrace(head + "100;", head.length(), 1);
        terrace(head + "99999999999999999999;", head.length(), 1);
        bookOf("minute 9;", -1, 0, 1);
        bookOf("minute 09;minute 60;", -1, 0, 2);
        book("minute 009;", 7, 1);
        sentenceOf("number=0 or number=00 or number=99", 3);
        sentence("number=000", 7, 1);
        sentence("number=100", 7, 1);
    }

    private static void signs() {
        Check.about("; < = > ( ) .");
        for (int b = 33; b < 127; b++) {
            char c = (char) b;
            boolean runs = c >= 'a' && c <= 'z' || c >= '0' && c <= '9';
            boolean compares = c == '<' || c == '=' || c == '>';
            if (!runs) {
                sentence("burnt" + c, 5, 1);
                book("o dies" + c, c == ';' ? -1 : 6, c == ';' ? 0 : 1, c == ';');
            }
            if (compares) {
                sentenceOf("people" + c + "3", 1);
            } else if (!runs) {
                sentence("people" + c + "3", 6, 1);
            }
        }
        sentenceOf("(burnt)", 2);
        sentence(")burnt(", 0, 1);
        sentence("people<=3", 7, 1);
        sentence("people==3", 7, 1);
    }

    private static void book(String text, int place, int kind, boolean right) {
        if (right) {
            bookOf(text, -1, 0, 1);
        } else {
            book(text, place, kind);
        }
    }

    private static void runsGoOn() {
        Check.about("A WORD, NUMBER goes on as long as small letters and digits do; what is not as told is no TOKEN");
        terrace("house x1;", 6, 1);
        terrace("house 1x;", 6, 1);
        terrace("house x1y;", 6, 1);
        terrace("house1 x;", 0, 1);
        terrace("housex;", 0, 1);
        terrace(TOLD + "likes o r5;", TOLD.length() + 8, 1);
        terrace(TOLD + "likes o r 5x;", TOLD.length() + 10, 1);
        book("o dies1;", 2, 1);
        book("minute1;", 0, 1);
        book("minute 1o dies;", 7, 1);
        sentence("people<5or burnt", 7, 1);
        sentence("number=1and free", 7, 1);
        sentence("burntor free", 0, 1);
        sentenceOf("people<5 or burnt", 2);
    }

    private static void anEmptyText() {
        Check.about("{ LINE ; }");
        WardrobeRow row = Check.row(TOLD);
        Check.due("terrace() of nothing", row.terrace(), 0);
        Check.due("no HOUSES", row.count(0) + row.count(1) + row.count(2) + row.count(3), 0);
        terraceOf(" \n", 0);
        bookOf("", -1, 0, 0);
        bookOf("\n", -1, 0, 0);
        Check.about("COND: ALL { 'or' ALL }");
        sentence("", 0, 1);
        sentence("\n ", 2, 1);
    }

    private static void theEnd() {
        Check.about("the end: how many bytes there are");
        String text = "house h;owner o;owner p;room r h o;room s h p;door r s;robe s r;";
        String fine = "house h;owner o;owner p;room r h o;room s h p;door r s;at o r;leave o p;heir o p;likes o r 5;";
        for (int n = 0; n <= fine.length(); n++) {
            String cut = fine.substring(0, n);
            int last = Math.max(Math.max(cut.lastIndexOf(' '), cut.lastIndexOf(';')) + 1, 0);
            boolean midWord = n < fine.length() && n > last && Character.isLetter(fine.charAt(n));
            if (cut.isEmpty() || cut.endsWith(";")) {
                terraceOf(cut, (int) cut.chars().filter(c -> c == ';').count());
            } else {
                terrace(cut, midWord ? last : n, 1);
                terrace(cut + "  \n", midWord ? last : n + 3, 1);
            }
        }
        terrace(text, text.length() - 2, 3);
        String lines = "o goes r;o sells r p;o lets p;o bars p;q dies;o wills p;shuts 0;opens 0;burns t;minute 60;";
        for (int n = 0; n <= lines.length(); n++) {
            String cut = lines.substring(0, n);
            int last = Math.max(Math.max(cut.lastIndexOf(' '), cut.lastIndexOf(';')) + 1, 0);
            boolean midWord = n < lines.length() && n > last && Character.isLetter(lines.charAt(n));
            boolean first = last == 0 || lines.charAt(last - 1) == ';';
            if (cut.isEmpty() || cut.endsWith(";")) {
                bookOf(cut, -1, 0, (int) cut.chars().filter(c -> c == ';').count());
            } else if (midWord && first && !cut.endsWith(";o")) {
                // the beginning of a line's first word looks like a NAME that is not told, or is a ROOM's
                book(cut, last, 3);
            } else {
                book(cut, midWord && !first ? last : n, 1);
                book(cut + " \n", midWord && !first ? last : n + 2, 1);
            }
        }
        String[] open = {"not", "burnt and", "burnt or", "(", "(burnt", "(burnt or", "of", "in", "people", "doors <",
            "worth =", "number >", "not not", "((burnt)", "burnt and not"};
        for (String cut : open) {
            sentence(cut, cut.length(), 1);
            sentence(cut + " \n ", cut.length() + 3, 1);
        }
    }

    private static void moreBytes() {
        Check.about("the most bytes told, if there are more and no FAULT is ahead");
        terraceOf(Check.blanks("house h;", 900), 1);
        terrace(Check.blanks("house h;", 901), 900, 1);
        terrace(Check.blanks("house h;", 940), 900, 1);
        terrace(Check.blanks("", 901), 900, 1);
        terraceOf(Check.blanks("", 900), 0);
        terraceOf(" ".repeat(892) + "house h;", 1);
        terrace(" ".repeat(893) + "house h;", 900, 1);
        terrace(Check.blanks("house h", 900), 900, 1);
        terrace(Check.blanks("house h", 901), 900, 1);
        terrace(Check.blanks("house h", 899), 899, 1);
        terrace(Check.blanks("house h;house h;", 940), 14, 3);
        bookOf(Check.blanks("o dies;", 400), -1, 0, 1);
        book(Check.blanks("o dies;", 401), 400, 1);
        book(Check.blanks("", 401), 400, 1);
        bookOf(" ".repeat(393) + "o dies;", -1, 0, 1);
        book(" ".repeat(394) + "o dies;", 400, 1);
        book(Check.blanks("o dies;", 940), 400, 1);
        book(Check.blanks("o dies;x dies;", 401), 7, 3);
        sentenceOf(Check.blanks("burnt", 200), 1);
        sentence(Check.blanks("burnt", 201), 200, 1);
        sentence(Check.blanks("", 200), 200, 1);
        sentence(Check.blanks("", 201), 200, 1);
        sentenceOf(" ".repeat(195) + "burnt", 1);
        sentence(Check.blanks("burnt", 940), 200, 1);
        sentence(Check.blanks("burnt)", 201), 5, 1);
    }

    private static void tokensReadWhole() {
        Check.about("TOKENS that begin ahead of it are read whole");
        // the last byte that may be holds the first letter; the WORD is all of it
        terrace(Check.blanks("house", 899) + "abcdefg;", 900, 1);
        terrace(Check.blanks("house", 899) + "abcdefgh;", 899, 1);
        terrace(Check.blanks("house", 899) + "a1;", 899, 1);
        terrace(Check.blanks("house ab;house", 899) + "ab;", 899, 3);
        terrace(Check.blanks("house a;house", 899) + "ab;", 900, 1);
        terrace(Check.blanks("", 899) + "house a;", 900, 1);
        terrace(Check.blanks("", 899) + "houses a;", 899, 1);
        terrace(Check.blanks(TOLD + "likes o r", 899) + "10;", 899, 2);
        terrace(Check.blanks(TOLD + "likes o r", 899) + "05;", 900, 1);
        terrace(Check.blanks("", 900) + "!", 900, 1);
        terrace(Check.blanks("", 899) + "!", 899, 1);
        terrace(Check.lines("house", 6, "") + " ".repeat(851) + "house g;", 899, 4);
        terrace(Check.lines("house", 6, "") + " ".repeat(852) + "house g;", 900, 1);
        book(Check.blanks("", 399) + "qq dies;", 399, 3);
        book(Check.blanks("", 399) + "q dies;", 400, 1);
        book(Check.blanks("minute", 399) + "61;", 399, 2);
        book(Check.blanks("minute", 399) + "60;", 400, 1);
        book(Check.blanks("minute", 399) + "600;", 399, 1);
        sentence(Check.blanks("", 199) + "burnt", 200, 1);
        sentence(Check.blanks("", 199) + "burntt", 199, 1);
        sentence(Check.blanks("of", 199) + "oo", 199, 3);
        sentenceOf(Check.blanks("of", 199) + "o", 1);
        sentence(Check.blanks("of", 199) + "o ", 200, 1);
        sentence(Check.blanks("burnt or number =", 199) + "99", 200, 1);
        sentence(Check.blanks("burnt or number =", 199) + "999", 199, 1);
    }

    private static void firstAlongTheText() {
        Check.about("FAULTS, the first along the text");
        terrace("house h;house h;house !;", 14, 3);
        terrace("house !;house h;house h;", 6, 1);
        terrace(TOLD + "likes o r 0;door r r;", TOLD.length() + 10, 2);
        terrace(TOLD + "door r r;likes o r 0;", TOLD.length() + 7, 3);
        terrace(Check.lines("house", 6, "") + "house !;", 48, 4);
        terrace(Check.lines("house", 6, "") + "house a;", 48, 4);
        terrace(TOLD + "likes o r 1;likes o r 0;", TOLD.length() + 20, 3);
        terrace(TOLD + "at o r;at o x;", TOLD.length() + 10, 3);
        terrace(TOLD + "heir o p;heir o x;", TOLD.length() + 14, 3);
        terrace(TOLD + "door x x;", TOLD.length() + 5, 3);
        book("shuts 20;x dies;", 6, 2);
        book("x dies;shuts 20;", 0, 3);
        book("o goes x", 7, 3);
        sentence("of x and )", 3, 3);
        sentence("number=) and of x", 7, 1);
    }

    private static void leastOfOneToken() {
        Check.about("of one TOKEN the least");
        // a told word is no NAME: it can't come, ahead of being not told
        for (String word : WORDS) {
            terrace("house " + word + ";", 6, 1);
            terrace(TOLD + "at " + word + " r;", TOLD.length() + 3, 1);
            book("o goes " + word + ";", 7, 1);
            sentence("of " + word, 3, 1);
        }
        String forty = "minute 1;".repeat(40);
        book(forty + "dies;", 360, 1);
        book(forty + "x dies;", 360, 3);
        book(forty + "r dies;", 360, 3);
        book(forty + "o x;", 360, 4);
        book(forty + "!", 360, 1);
        String twenty = "burnt" + " or free".repeat(19) + " or ";
        sentence(twenty + "or", twenty.length(), 1);
        sentence(twenty, twenty.length(), 1);
        sentence(twenty + "of x", twenty.length(), 4);
        sentence("not ".repeat(8) + "x", 32, 1);
        sentence("not ".repeat(8) + "of x", 32, 4);
        terrace(TOLD + "likes o r 100;", TOLD.length() + 10, 1);
    }

    private static void keptWithAFault() {
        Check.about("-1 less the place of a FAULT: it stays");
        WardrobeRow row = Check.row(TOLD);
        Check.sentence(row, "of o");
        row.go(0, 0);
        row.shut(0, 1);
        row.minutes(7);
        String before = Check.seen(row);
        // all that a TERRACE may tell comes ahead of the FAULT
        String other = "owner r;house o;room h o r;room i o r;door h i;at r h;likes r h 3;owner z;leave r z;heir r z;;";
        Check.due("terrace()", Check.terrace(row, other), -other.length());
        Check.dueText("all stays", Check.seen(row), before);
        Check.due("the SENTENCE stays", row.said(-1), 1);
        Check.due("sentence()", Check.sentence(row, "burnt or not of p and"), -22);
        Check.dueText("all stays", Check.seen(row), before);
        Check.due("prices()", row.prices(), 1);
        Check.due("wants(0)", row.wants(0), -1);
        Check.due("three can be undone", row.undo(), 2);
        Check.due("NAMES stay", Check.book(row, "o goes s;", 0), 0);
        Check.due("shut", row.booked(0), 3);
    }

    private static void faultKinds() {
        Check.about("the kind of the FAULT of the latest terrace(), book() or sentence(); 0 without one and ahead of any");
        WardrobeRow row = new WardrobeRow();
        Check.due("ahead of any", row.fault(), 0);
        Check.terrace(row, Check.lines("house", 7, ""));
        Check.due("terrace()", row.fault(), 4);
        row.walked();
        row.corridor(0);
        row.minutes(1);
        row.undo();
        row.image(0);
        row.restore(0);
        row.feed(1, 2, 3, 4, 5);
        Check.due("other calls leave it", row.fault(), 4);
        Check.book(row, "minute 0;", 0);
        Check.due("book()", row.fault(), 2);
        Check.sentence(row, "of x");
        Check.due("sentence()", row.fault(), 3);
        Check.tape(row, "!");
        row.book(2);
        Check.due("a book() of -1000 leaves it", row.fault(), 3);
        row.book(-1);
        Check.due("a book() of -1000 leaves it", row.fault(), 3);
        row.book(1);
        Check.due("1", row.fault(), 1);
        Check.book(row, "", 1);
        Check.due("0 behind a book()", row.fault(), 0);
        Check.sentence(row, "x");
        Check.sentence(row, "burnt");
        Check.due("0 behind a sentence()", row.fault(), 0);
        Check.terrace(row, "x");
        Check.due("1 behind a terrace()", row.fault(), 1);
        Check.terrace(row, "");
        Check.due("0 behind a terrace()", row.fault(), 0);
        // a WRONG line is no FAULT
        Check.terrace(row, "x");
        Check.book(row, "shuts 5;", 0);
        Check.due("0 behind a WRONG BOOK", row.fault(), 0);
    }
}
