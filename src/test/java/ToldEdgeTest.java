/**
 * The edges of what a TERRACE, a BOOK and a SENTENCE may tell: once or twice, alike or not, how many, how deep; and
 * what the face then tells of it. Each method is about the sentence of the document that it names.
 */
public final class ToldEdgeTest {
    private static final String HEAD = "house h;owner o;owner p;owner q;room r h o;room s h p;room t h q;";
    private static final int AT = HEAD.length();

    public static void main(String[] args) {
        passages();
        places();
        leaves();
        heirs();
        likings();
        namesToldHere();
        namesToldOnce();
        namesOfSorts();
        mostHouses();
        mostOwners();
        mostRooms();
        mostPassages();
        numbered();
        bookLines();
        bookForms();
        bookPassages();
        bookMinutes();
        sentenceOnes();
        sentenceWithin();
        sentenceForms();
        sentenceNumbers();
        Check.close();
    }

    private static void fault(String tail, int place, int kind) {
        WardrobeRow row = new WardrobeRow();
        Check.due("terrace() with '" + tail + "'", Check.terrace(row, HEAD + tail), -1 - AT - place);
        Check.due("fault() with '" + tail + "'", row.fault(), kind);
    }

    private static WardrobeRow fine(String tail) {
        WardrobeRow row = new WardrobeRow();
        int lines = 7 + (int) tail.chars().filter(c -> c == ';').count();
        Check.due("terrace() with '" + tail + "'", Check.terrace(row, HEAD + tail), lines);
        return row;
    }

    private static void passages() {
        Check.about("'door' ROOM ROOM | 'robe' ROOM ROOM (unlike; each two once, of both sorts together, in whatever order)");
        fault("door r r;", 7, 3);
        fault("robe r r;", 7, 3);
        for (String first : new String[] {"door", "robe"}) {
            for (String second : new String[] {"door", "robe"}) {
                fault(first + " r s;" + second + " r s;", 16, 3);
                fault(first + " r s;" + second + " s r;", 16, 3);
                fine(first + " r s;" + second + " s t;" + first + " t r;");
            }
        }
    }

    private static void places() {
        Check.about("'at' OWNER ROOM (each OWNER once: where he is at first; else he is out)");
        fault("at o r;at o s;", 10, 3);
        fault("at o r;at p r;at o r;", 17, 3);
        WardrobeRow row = fine("at p r;at o r;");
        Check.due("o is in r", row.owner(0, 0), 0);
        Check.due("p is in r without leave", row.owner(1, 0), 0);
        Check.due("q is out", row.owner(2, 0), -1);
        Check.due("both are in r", row.room(0, 3), 3);
        Check.due("no goings", row.now(5), 0);
    }

    private static void leaves() {
        Check.about("'leave' OWNER OWNER (the first lets the second into his rooms); unlike, each two once");
        fault("leave o o;", 8, 3);
        fault("leave o p;leave o p;", 18, 3);
        fault("leave o p;leave o q;leave p o;leave o p;", 38, 3);
        WardrobeRow row = fine("leave o p;leave p o;leave o q;");
        Check.due("o lets p and q", row.owner(0, 3), 0b110);
        Check.due("p lets o", row.owner(1, 3), 0b001);
        Check.due("q lets nobody", row.owner(2, 3), 0);
    }

    private static void heirs() {
        Check.about("'heir' OWNER OWNER (each first one once); unlike, each two once");
        fault("heir o o;", 7, 3);
        fault("heir o p;heir o p;", 14, 3);
        fault("heir o p;heir o q;", 14, 3);
        fault("heir o p;heir o o;", 14, 3);
        WardrobeRow row = fine("heir o p;heir p o;heir q o;");
        Check.due("of o", row.owner(0, 4), 1);
        Check.due("of p", row.owner(1, 4), 0);
        Check.due("one may be heir to two", row.owner(2, 4), 0);
    }

    private static void likings() {
        Check.about("'likes' OWNER ROOM N (1 to 9; each two once)");
        fault("likes o r 0;", 10, 2);
        fault("likes o r 00;", 10, 2);
        fault("likes o r 10;", 10, 2);
        fault("likes o r 99;", 10, 2);
        fault("likes o r 1;likes o r 1;", 20, 3);
        fault("likes o r 9;likes p r 9;likes o s 9;likes o r 5;", 44, 3);
        WardrobeRow row = fine("likes o r 1;likes p r 9;likes o s 1;likes p s 09;");
        Check.sentence(row, "worth = 9");
        Check.due("both are worth 9", row.said(-1), 2);
    }

    private static void namesToldHere() {
        Check.about("NAME: a WORD, none of those told here, in a BOOK or a SENTENCE");
        String words = "house owner room door robe at leave heir likes goes sells lets bars dies wills shuts opens burns"
            + " minute or and not burnt free of in people doors worth number";
        for (String word : words.split(" ")) {
            fault("house " + word + ";", 6, 1);
            fault("owner " + word + ";", 6, 1);
            fault("room " + word + " h o;", 5, 1);
            if (word.length() < 7) {
                fine("house " + word + "x;owner x" + word + ";");
            }
            fine("house " + word.substring(0, word.length() - 1) + "z;");
        }
        // words of the document that no text tells
        fine("house name;house line;house none;owner fire;owner way;");
    }

    private static void namesToldOnce() {
        Check.about("a NAME told twice");
        for (String name : new String[] {"h", "o", "r"}) {
            fault("house " + name + ";", 6, 3);
            fault("owner " + name + ";", 6, 3);
            fault("room " + name + " h o;", 5, 3);
        }
        fault("room u h o;house u;", 17, 3);
        fine("house hh;owner oo;room rr h o;");
    }

    private static void namesOfSorts() {
        Check.about("a NAME not told, or of another sort");
        for (String name : new String[] {"x", "o", "r"}) {
            fault("room u " + name + " o;", 7, 3);
        }
        for (String name : new String[] {"x", "h", "r", "u"}) {
            fault("room u h " + name + ";", 9, 3);
            fault("at " + name + " r;", 3, 3);
            fault("leave " + name + " o;", 6, 3);
            fault("leave o " + name + ";", 8, 3);
            fault("heir " + name + " o;", 5, 3);
            fault("heir o " + name + ";", 7, 3);
            fault("likes " + name + " r 5;", 6, 3);
        }
        for (String name : new String[] {"x", "h", "o"}) {
            fault("door " + name + " r;", 5, 3);
            fault("door r " + name + ";", 7, 3);
            fault("robe " + name + " r;", 5, 3);
            fault("robe r " + name + ";", 7, 3);
            fault("at o " + name + ";", 5, 3);
            fault("likes o " + name + " 5;", 8, 3);
        }
        // what is told later is not told yet
        fault("door r u;room u h o;", 7, 3);
    }

    private static void most(String text, String more, int what, int many) {
        WardrobeRow row = new WardrobeRow();
        int lines = (int) text.chars().filter(c -> c == ';').count();
        Check.due("as many as there may be", Check.terrace(row, text), lines);
        Check.due("count(" + what + ")", row.count(what), many);
        Check.due("one more", Check.terrace(row, text + more), -1 - text.length());
        Check.due("its kind", row.fault(), 4);
        Check.due("one more, cut off", Check.terrace(row, text + more.substring(0, more.indexOf(' '))), -1 - text.length());
        Check.due("its kind", row.fault(), 4);
        Check.due("those told stay", row.count(what), many);
    }

    private static void mostHouses() {
        Check.about("6 HOUSES at most");
        most(Check.lines("house", 6, ""), "house g;", 0, 6);
        most(Check.lines("house", 6, "") + "owner oo;room rr f oo;", "house a;", 0, 6);
    }

    private static void mostOwners() {
        Check.about("6 OWNERS at most");
        most(Check.lines("owner", 6, ""), "owner g;", 1, 6);
    }

    private static void mostRooms() {
        Check.about("12 ROOMS at most");
        most("house hh;owner oo;" + Check.lines("room", 12, " hh oo"), "room m hh oo;", 2, 12);
    }

    private static String passages(int doors, int robes) {
        StringBuilder text = new StringBuilder("house hh;owner oo;" + Check.lines("room", 12, " hh oo"));
        int made = 0;
        for (int i = 0; i < 12; i++) {
            for (int j = i + 1; j < 12 && made < doors + robes; j++) {
                text.append(made < doors ? "door " : "robe ").append((char) ('a' + i)).append(' ')
                    .append((char) ('a' + j)).append(';');
                made++;
            }
        }
        return text.toString();
    }

    private static void mostPassages() {
        Check.about("20 doors and robes together (PASSAGES) at most");
        most(passages(20, 0), "door k l;", 3, 20);
        most(passages(0, 20), "robe k l;", 3, 20);
        most(passages(0, 20), "door k l;", 4, 20);
        most(passages(13, 7), "robe k l;", 4, 7);
        most(passages(13, 7), "door a a;", 3, 20);
        WardrobeRow row = Check.row(passages(19, 1));
        Check.due("the last is a robe", row.passage(19, 2), 1);
        Check.due("the last but one is none", row.passage(18, 2), 0);
        Check.due("shut(18, 1)", row.shut(18, 1), 0);
        Check.due("passage(18, 3)", row.passage(18, 3), 1);
        Check.due("shut(19, 1)", row.shut(19, 1), 1);
        Check.due("shut(20, 1)", row.shut(20, 1), -1);
        Check.due("eleven lead from the first", row.room(0, 4), 0b11111111111);
        Check.due("the last joins", row.passage(19, 0) * 100 + row.passage(19, 1), 110);
    }

    private static void numbered() {
        Check.about("numbered from 0 each");
        WardrobeRow row = Check.row("owner a;house b;owner c;room d b c;house e;room f e a;room g b a;robe g f;door d g;");
        Check.due("rooms", row.count(2), 3);
        Check.due("d", row.room(0, 0) * 10 + row.room(0, 1), 1);
        Check.due("f", row.room(1, 0) * 10 + row.room(1, 1), 10);
        Check.due("g", row.room(2, 0) * 10 + row.room(2, 1), 0);
        Check.due("of a", row.owner(0, 2), 0b110);
        Check.due("of c", row.owner(1, 2), 0b001);
        Check.due("the robe is PASSAGE 0", row.passage(0, 2), 1);
        Check.due("from g", row.passage(0, 0), 2);
        Check.due("to f", row.passage(0, 1), 1);
        Check.due("the door is PASSAGE 1", row.passage(1, 2), 0);
        Check.due("PASSAGES of g", row.room(2, 4), 0b11);
        Check.due("PASSAGES of f", row.room(1, 4), 0b01);
        WardrobeRow full = Check.row(Check.lines("house", 6, "") + "owner u;owner v;owner w;owner x;owner y;owner z;"
            + "room ra a z;room rb b u;room rc c u;room rd d u;room re e u;room rf f u;room rg f u;room rh f u;"
            + "room ri f u;room rj f u;room rk f u;room rl f z;at z rl;leave u z;heir z y;likes z rl 9;");
        Check.due("the last room's HOUSE", full.room(11, 0), 5);
        Check.due("the last room's OWNER", full.room(11, 1), 5);
        Check.due("who are there", full.room(11, 3), 0b100000);
        Check.due("rooms of the last OWNER", full.owner(5, 2), 0b100000000001);
        Check.due("where he is", full.owner(5, 0), 11);
        Check.due("his heir", full.owner(5, 4), 4);
        Check.due("whom u lets", full.owner(0, 3), 0b100000);
        full.prices();
        Check.due("what he wants", full.wants(5), 11);
        Check.due("mixed", full.mixed(), 0b100000);
    }

    // ---- BOOKS and SENTENCES, over the HEAD with passages 0 r-s (a door), 1 s-t (a robe) ----

    private static WardrobeRow two() {
        return Check.row(HEAD + "door r s;robe s t;");
    }

    private static void book(String text, int place, int kind) {
        WardrobeRow row = two();
        Check.due("book(1) of '" + text + "'", Check.book(row, text, 1), -2 - place);
        Check.due("fault() of '" + text + "'", row.fault(), kind);
    }

    private static void right(String text, int lines) {
        WardrobeRow row = two();
        Check.due("book(0) of '" + text + "'", Check.book(row, text, 0), -1);
        Check.due("LINES of '" + text + "'", row.booked(1), lines);
    }

    private static void bookLines() {
        Check.about("{ LINE ; }, 40 at most; a 41st LINE of a BOOK (at the LINE's first WORD)");
        right("minute 1;".repeat(39), 39);
        right("minute 1;".repeat(40), 40);
        book("minute 1;".repeat(41), 360, 4);
        book("minute 1;".repeat(40) + "\n o", 362, 4);
        book("minute 1;".repeat(40) + "burns", 360, 4);
        right("minute 1;".repeat(40) + " \n", 40);
        book("minute 1;".repeat(40) + ";", 360, 1);
        book("o dies;".repeat(40) + "shuts 0;", 280, 4);
    }

    private static void bookForms() {
        Check.about("OWNER ( 'goes' ROOM | 'sells' ROOM OWNER | 'lets' OWNER | 'bars' OWNER | 'dies' | 'wills' OWNER )");
        right("o goes r;o sells r p;o lets p;o bars p;o wills p;o dies;", 6);
        for (String name : new String[] {"x", "h", "r"}) {
            book(name + " dies;", 0, 3);
            book("o sells r " + name + ";", 10, 3);
            book("o lets " + name + ";", 7, 3);
            book("o bars " + name + ";", 7, 3);
            book("o wills " + name + ";", 8, 3);
        }
        for (String name : new String[] {"x", "h", "o"}) {
            book("o goes " + name + ";", 7, 3);
            book("o sells " + name + " p;", 8, 3);
            book("burns " + name + ";", 6, 3);
        }
        for (String word : new String[] {"house", "at", "shuts", "minute", "or", "p", "5", ";", "("}) {
            book("o " + word + " r;", 2, 1);
        }
        book("o dies p;", 7, 1);
        book("o goes r s;", 9, 1);
        book("o sells r;", 9, 1);
        book("shuts;", 5, 1);
        book("burns 0;", 6, 1);
        book("minute o;", 7, 1);
        book("goes r;", 0, 1);
        book("house z;", 0, 1);
        book("not;", 0, 1);
    }

    private static void bookPassages() {
        Check.about("( 'shuts' | 'opens' ) N (0 to 19)");
        right("shuts 0;opens 0;shuts 00;", 3);
        book("shuts 20;", 6, 2);
        book("opens 20;", 6, 2);
        book("shuts 99;", 6, 2);
        WardrobeRow row = two();
        Check.due("19 may be told", Check.book(row, "shuts 19;", 0), 0);
        Check.due("though it is no PASSAGE", row.booked(0), 69);
    }

    private static void bookMinutes() {
        Check.about("'minute' N (1 to 60)");
        right("minute 1;minute 60;minute 01;", 3);
        book("minute 0;", 7, 2);
        book("minute 00;", 7, 2);
        book("minute 61;", 7, 2);
        book("minute 99;", 7, 2);
    }

    private static void sentence(String text, int place, int kind) {
        WardrobeRow row = two();
        Check.due("sentence() of '" + text + "'", Check.sentence(row, text), -1 - place);
        Check.due("fault() of '" + text + "'", row.fault(), kind);
        Check.due("none", row.said(-1), -1);
    }

    private static void ones(String text, int ones) {
        WardrobeRow row = two();
        Check.due("sentence() of '" + text + "'", Check.sentence(row, text), ones);
    }

    private static void sentenceOnes() {
        Check.about("20 ONES; a 21st ONE (at its first TOKEN); how many ONES (each not, bracket and other one)");
        ones("burnt", 1);
        ones("not burnt", 2);
        ones("(burnt)", 2);
        ones("not(burnt and not free)", 5);
        ones("of o" + " and of p".repeat(19), 20);
        sentence("of o" + " and of p".repeat(20), 4 + 9 * 19 + 5, 4);
        ones("burnt" + " or free".repeat(19), 20);
        sentence("burnt" + " or free".repeat(19) + " or not burnt", 5 + 8 * 19 + 4, 4);
        sentence("burnt" + " or free".repeat(19) + " or(burnt)", 5 + 8 * 19 + 3, 4);
        ones("burnt" + " or free".repeat(18) + " or burnt", 20);
        sentence("burnt" + " or free".repeat(18) + " or not burnt", 5 + 8 * 18 + 8, 4);
        sentence("burnt" + " or free".repeat(18) + " or(burnt)", 5 + 8 * 18 + 4, 4);
        // so many as there may be are all said
        WardrobeRow row = two();
        Check.sentence(row, "number=9" + " or number=8".repeat(10));
        Check.due("said of none", row.said(-1), 0);
        Check.sentence(row, "burnt or burnt or " + "burnt and ".repeat(10) + "burnt or not(not(not(free)))");
        Check.due("said of all", row.said(-1), 3);
        Check.sentence(row, "burnt" + " or burnt".repeat(18) + " or number=2");
        Check.due("said by the twentieth", row.said(0), 2);
    }

    private static void sentenceWithin() {
        Check.about("8 within one another; a ninth within (at its first TOKEN)");
        ones("not ".repeat(7) + "burnt", 8);
        sentence("not ".repeat(8) + "burnt", 32, 4);
        sentence("not ".repeat(9) + "burnt", 32, 4);
        ones("(".repeat(7) + "free" + ")".repeat(7), 8);
        sentence("(".repeat(8) + "free" + ")".repeat(8), 8, 4);
        ones("not(not(not(not of o)))", 8);
        sentence("not(not(not(not(of o))))", 16, 4);
        ones("not ".repeat(7) + "burnt or " + "not ".repeat(7) + "free", 16);
        ones("(" + "not ".repeat(6) + "burnt and " + "not ".repeat(6) + "free)", 15);
        sentence("(" + "not ".repeat(6) + "burnt and " + "not ".repeat(7) + "free)", 1 + 24 + 10 + 28, 4);
        WardrobeRow row = two();
        Check.sentence(row, "not ".repeat(7) + "number=1");
        Check.due("seven times not", row.said(-1), 2);
        Check.sentence(row, "not ".repeat(6) + "number=1");
        Check.due("six times not", row.said(-1), 1);
    }

    private static void sentenceForms() {
        Check.about("ONE: 'not' ONE | ( COND ) | 'burnt' | 'free' | 'of' OWNER | 'in' HOUSE | ...");
        for (String name : new String[] {"x", "h", "r"}) {
            sentence("of " + name, 3, 3);
        }
        for (String name : new String[] {"x", "o", "r"}) {
            sentence("in " + name, 3, 3);
        }
        sentence("()", 1, 1);
        sentence("(burnt))", 7, 1);
        sentence("burnt free", 6, 1);
        sentence("burnt not free", 6, 1);
        sentence("and burnt", 0, 1);
        sentence("burnt or and free", 9, 1);
        sentence("x", 0, 1);
        sentence("5", 0, 1);
        sentence("house h", 0, 1);
        sentence("not)", 3, 1);
        sentence("people", 6, 1);
        sentence("people 5", 7, 1);
        sentence("people<of", 7, 1);
        sentence("people<<5", 7, 1);
        sentence("5<people", 0, 1);
        sentence("burnt;", 5, 1);
    }

    private static void sentenceNumbers() {
        Check.about("( 'people' | 'doors' | 'worth' | 'number' ) SIGN NUMBER");
        for (String word : new String[] {"people", "doors", "worth", "number"}) {
            for (String sign : new String[] {"<", "=", ">"}) {
                ones(word + sign + "0", 1);
                ones(word + sign + "99", 1);
                sentence(word + sign + "100", word.length() + 1, 1);
            }
        }
        WardrobeRow row = two();
        for (int number = 0; number < 3; number++) {
            Check.sentence(row, "number<" + number);
            Check.due("number<" + number, row.said(-1), number);
            Check.sentence(row, "number=" + number);
            Check.due("number=" + number, row.said(-1), 1);
            Check.sentence(row, "number>" + number);
            Check.due("number>" + number, row.said(-1), 2 - number);
        }
    }
}
