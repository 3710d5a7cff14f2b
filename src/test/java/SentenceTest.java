/** Promises 43 and 44 (and 5): sentence, said, the FAULTS of a SENTENCE. */
public final class SentenceTest {
    private static final String TEXT = "house h;house i;owner o;owner p;room a h o;room b h p;room c i o;room d i p;"
        + "door a b;robe b c;door a c;at o b;at p b;likes o a 4;likes p a 7;likes o d 1;";

    public static void main(String[] args) {
        faults();
        ones();
        length();
        meaning();
        saying();
        stays();
        Check.close();
    }

    private static void fault(String text, int place, int kind) {
        WardrobeRow row = Check.row(TEXT);
        Check.due("'" + text + "'", Check.sentence(row, text), -1 - place);
        Check.due("kind of '" + text + "'", row.fault(), kind);
        Check.due("none", row.said(-1), -1);
        Check.due("empty tape", row.count(5), 0);
    }

    private static void faults() {
        fault("", 0, 1);
        fault("  ", 2, 1);
        fault("burnt burnt", 6, 1);
        fault("burnt and", 9, 1);
        fault("burnt or or free", 9, 1);
        fault("or", 0, 1);
        fault("not", 3, 1);
        fault("()", 1, 1);
        fault("(burnt", 6, 1);
        fault("burnt)", 5, 1);
        fault("(burnt;", 6, 1);
        fault("burnt;", 5, 1);
        fault("of a", 3, 3);
        fault("of h", 3, 3);
        fault("of x", 3, 3);
        fault("of not", 3, 1);
        fault("in o", 3, 3);
        fault("in 1", 3, 1);
        fault("o", 0, 1);
        fault("goes", 0, 1);
        fault("people 1", 7, 1);
        fault("people ( 1", 7, 1);
        fault("people > x", 9, 1);
        fault("people > 100", 9, 1);
        fault("people >", 8, 1);
        fault("number = 1 2", 11, 1);
    }

    private static void fine(String text, int ones) {
        WardrobeRow row = Check.row(TEXT);
        Check.due("'" + text + "'", Check.sentence(row, text), ones);
        Check.due("no FAULT in '" + text + "'", row.fault(), 0);
    }

    private static void ones() {
        fine("burnt", 1);
        fine("not burnt", 2);
        fine("(burnt)", 2);
        fine("not(not burnt and free)or worth<5", 6);
        fine("number=99", 1);
        fine("burnt" + " or free".repeat(19), 20);
        fault("burnt" + " or free".repeat(20), 5 + 19 * 8 + 4, 4);
        fault("burnt" + " or free".repeat(19) + " or )", 5 + 19 * 8 + 4, 1);
        fine("not ".repeat(7) + "burnt", 8);
        fault("not ".repeat(8) + "burnt", 32, 4);
        fault("not ".repeat(8) + "and", 32, 1);
        fine("(".repeat(7) + "burnt" + ")".repeat(7), 8);
        fault("(".repeat(8) + "burnt" + ")".repeat(8), 8, 4);
        fault("(".repeat(9), 8, 4);
        fine("(not ".repeat(3) + "(burnt)" + ")".repeat(3) + "and" + "(not ".repeat(3) + "(burnt)" + ")".repeat(3), 16);
        fine("not not not not not not not burnt or not not not not not not not free", 16);
    }

    private static void length() {
        fine("burnt" + " ".repeat(195), 1);
        fault("burnt" + " ".repeat(196), 200, 1);
        fault("burnt" + " ".repeat(194) + "or free", 200, 1);
        fault("burnt" + " ".repeat(194) + "free", 199, 1);
        fault("burnt" + " ".repeat(190) + "or of" + "o".repeat(3), 198, 1);
        fault("burnt or of" + " ".repeat(188) + "oo", 199, 3);
        fault("burnt or people>" + " ".repeat(183) + "99", 200, 1);
        fault("burnt or people>" + " ".repeat(183) + "999", 199, 1);
    }

    private static int rooms(WardrobeRow row, String text) {
        if (Check.sentence(row, text) < 0) {
            return -2;
        }
        int rooms = 0;
        int many = row.said(-1);
        for (int k = 0; k < many; k++) {
            rooms |= 1 << row.said(k);
        }
        Check.due("no more", row.said(many), -1);
        return rooms;
    }

    private static void meaning() {
        WardrobeRow row = Check.row(TEXT);
        row.shut(0, 1);
        Check.due("people", rooms(row, "people > 1"), 0b0010);
        Check.due("people 0", rooms(row, "people = 0"), 0b1101);
        Check.due("doors, shut ones and robes too", rooms(row, "doors = 2"), 0b0111);
        Check.due("doors", rooms(row, "doors < 1"), 0b1000);
        Check.due("worth", rooms(row, "worth = 7"), 0b0001);
        Check.due("worth 0", rooms(row, "worth < 1"), 0b0110);
        Check.due("number", rooms(row, "number > 1"), 0b1100);
        Check.due("number", rooms(row, "number = 03"), 0b1000);
        Check.due("of", rooms(row, "of p"), 0b1010);
        Check.due("in", rooms(row, "in i"), 0b1100);
        Check.due("and is closer", rooms(row, "in h or of p and in i"), 0b1011);
        Check.due("and is closer", rooms(row, "of p and in i or in h"), 0b1011);
        Check.due("brackets", rooms(row, "(in h or of p) and in i"), 0b1000);
        Check.due("not is closest", rooms(row, "not in h and of p"), 0b1000);
        Check.due("not of brackets", rooms(row, "not(in h and of p)"), 0b1101);
        Check.due("many", rooms(row, "number=0 or number=1 and of o or number=2 and in i or burnt"), 0b0101);
        Check.due("many ands", rooms(row, "in h or in i and of p and number > 2 or number < 0"), 0b1011);
        row.burn(0);
        Check.due("burnt", rooms(row, "burnt"), 0b0001);
        row.die(0);
        Check.due("free", rooms(row, "free"), 0b0101);
        Check.due("of the dead", rooms(row, "of o"), 0);
        Check.due("people now", rooms(row, "people = 1"), 0b0010);
        Check.due("all", rooms(row, "not burnt or burnt"), 0b1111);
    }

    private static void saying() {
        WardrobeRow row = Check.row(TEXT);
        Check.due("no SENTENCE", row.said(-1) + row.said(0), -2);
        Check.sentence(row, "of p");
        Check.due("how many", row.said(-1), 2);
        Check.due("first", row.said(0), 1);
        Check.due("second", row.said(1), 3);
        Check.due("no third", row.said(2), -1);
        Check.due("k -2", row.said(-2), -1);
        row.sell(1, 1, 0);
        Check.due("as it is now", row.said(-1), 1);
        row.undo();
        Check.due("as it is again", row.said(-1), 2);
    }

    private static void stays() {
        WardrobeRow row = Check.row(TEXT);
        Check.sentence(row, "of p");
        Check.due("a FAULT", Check.sentence(row, "of"), -3);
        Check.due("it stays", row.said(-1), 2);
        Check.due("kind", row.fault(), 1);
        Check.due("another", Check.sentence(row, "number = 2"), 1);
        Check.due("kind then", row.fault(), 0);
        Check.due("that", row.said(0), 2);
        Check.terrace(row, "house");
        Check.due("stays with a FAULT of a TERRACE", row.said(0), 2);
        Check.terrace(row, TEXT);
        Check.due("gone with a new TERRACE", row.said(-1), -1);
    }
}
