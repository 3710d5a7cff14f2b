/** Promises 4 to 8: terrace, fault, room, owner, passage; the FAULTS of a TERRACE. */
public final class TerraceTest {
    private static final String HEAD = "house h;owner o;owner p;room r h o;room s h p;";

    public static void main(String[] args) {
        tokens();
        names();
        limits();
        length();
        stays();
        asking();
        Check.close();
    }

    private static void fault(String text, int place, int kind) {
        WardrobeRow row = new WardrobeRow();
        Check.due("'" + text + "'", Check.terrace(row, text), -1 - place);
        Check.due("kind of '" + text + "'", row.fault(), kind);
        Check.due("nothing told by '" + text + "'", row.count(0) + row.count(1) + row.count(2), 0);
        Check.due("empty tape", row.count(5), 0);
    }

    private static void fine(String text, int lines) {
        WardrobeRow row = new WardrobeRow();
        Check.due("'" + text + "'", Check.terrace(row, text), lines);
        Check.due("no FAULT in '" + text + "'", row.fault(), 0);
    }

    private static void tokens() {
        fine("", 0);
        fine(" \n ", 0);
        fine("house\nabcdefg ; owner x\n;", 2);
        fine(HEAD + "likes o r 09;likes o s 9;", 7);
        fault("house", 5, 1);
        fault("house   ", 8, 1);
        fault("house h", 7, 1);
        fault("house abcdefgh;", 6, 1);
        fault("house a1;", 6, 1);
        fault("house 1a;", 6, 1);
        fault("house 1;", 6, 1);
        fault("house h;;", 8, 1);
        fault("house h\t;", 7, 1);
        fault("house H;", 6, 1);
        fault("House h;", 0, 1);
        fault("house h.", 7, 1);
        fault("h;", 0, 1);
        fault("goes h;", 0, 1);
        fault("house h i;", 8, 1);
        fault("househ;", 0, 1);
        fault(HEAD + "likes o r 0;", 56, 2);
        fault(HEAD + "likes o r 10;", 56, 2);
        fault(HEAD + "likes o r 100;", 56, 1);
        fault(HEAD + "likes o r x;", 56, 1);
        fault(HEAD + "likes o r5;", 54, 1);
        fault(HEAD + "likes o r 5 5;", 58, 1);
    }

    private static void names() {
        String[] words = ("house owner room door robe at leave heir likes goes sells lets bars dies wills shuts opens"
            + " burns minute or and not burnt free of in people doors worth number").split(" ");
        for (String word : words) {
            fault("house " + word + ";", 6, 1);
            fault("owner " + word + ";", 6, 1);
            fault("house h;owner o;room r " + word + " o;", 23, 1);
        }
        fine("house hous;owner owners;owner nots;", 3);
        fault("house a;owner a;", 14, 3);
        fault("owner a;owner a;", 14, 3);
        fault("owner a;house a;", 14, 3);
        fault("house h;owner o;room r h o;room r h o;", 32, 3);
        fault("house h;owner o;room r h o;house r;", 33, 3);
        fault("house h;owner o;room r h o;owner r;", 33, 3);
        fault("house h;owner o;room h h o;", 21, 3);
        fault("house h;owner o;room r o o;", 23, 3);
        fault("house h;owner o;room r h h;", 25, 3);
        fault("house h;owner o;room r r o;", 23, 3);
        fault(HEAD + "door r x;", 53, 3);
        fault(HEAD + "door o r;", 51, 3);
        fault(HEAD + "door r r;", 53, 3);
        fault(HEAD + "door r s;door r s;", 62, 3);
        fault(HEAD + "robe r s;door s r;", 62, 3);
        fault(HEAD + "at o r;at o s;", 56, 3);
        fault(HEAD + "at r r;", 49, 3);
        fine(HEAD + "leave o p;leave p o;heir o p;heir p o;at o r;at p r;", 11);
        fault(HEAD + "leave o o;", 54, 3);
        fault(HEAD + "leave o p;leave o p;", 64, 3);
        fault(HEAD + "heir o o;", 53, 3);
        fault(HEAD + "heir o p;heir o o;", 60, 3);
        fault(HEAD + "likes o r 1;likes o r 0;", 66, 3);
        fine(HEAD + "likes o r 1;likes p r 1;likes o s 9;", 8);
    }

    private static String lines(String word, int many, String tail) {
        StringBuilder text = new StringBuilder();
        for (int i = 0; i < many; i++) {
            text.append(word).append(' ').append((char) ('a' + i)).append(tail).append(';');
        }
        return text.toString();
    }

    private static void limits() {
        fine(lines("house", 6, ""), 6);
        fault(lines("house", 7, ""), 48, 4);
        fault(lines("house", 6, "") + "house", 48, 4);
        fine(lines("owner", 6, ""), 6);
        fault(lines("owner", 6, "") + " \nowner !", 50, 4);
        String head = "house hh;owner oo;";
        fine(head + lines("room", 12, " hh oo"), 14);
        fault(head + lines("room", 13, " hh oo"), 18 + 12 * 13, 4);
        StringBuilder doors = new StringBuilder(head + lines("room", 7, " hh oo"));
        int made = 0;
        for (int i = 0; i < 7 && made < 20; i++) {
            for (int j = i + 1; j < 7 && made < 20; j++) {
                doors.append(made % 3 == 0 ? "robe " : "door ").append((char) ('a' + i)).append(' ')
                    .append((char) ('a' + j)).append(';');
                made++;
            }
        }
        fine(doors.toString(), 29);
        fault(doors + "door f g;", doors.length(), 4);
        fault(doors + "robe f f;", doors.length(), 4);
    }

    private static String padded(String text, int bytes) {
        StringBuilder all = new StringBuilder(text);
        while (all.length() < bytes) {
            all.append(' ');
        }
        return all.toString();
    }

    private static void length() {
        fine(padded("house h;", 900), 1);
        fault(padded("house h;", 901), 900, 1);
        fault(padded("house h;", 940), 900, 1);
        fault(padded("house h;", 899) + "!;", 899, 1);
        fault(padded("house h;", 900) + "!;", 900, 1);
        // a token that begins ahead of the limit is read whole
        fault(padded("house h;house", 899) + "abc;", 900, 1);
        fault(padded("house h;house", 899) + "h;", 900 - 1, 3);
        fault(padded("house h;house", 899) + "hx;", 900, 1);
        fault(padded("house h;house", 895) + "abcdefgh;", 895, 1);
        fault(padded("house h;", 898) + "house a;", 900, 1);
        fault(padded("house h;", 898) + "houses a;", 898, 1);
        fault(padded("house", 900), 900, 1);
        fault(padded("house", 901), 900, 1);
        fault(padded("house", 899), 899, 1);
    }

    private static void stays() {
        WardrobeRow row = Check.row(HEAD + "door r s;");
        row.go(0, 0);
        Check.due("a FAULT", Check.terrace(row, "house x"), -8);
        Check.due("kind", row.fault(), 1);
        Check.due("rooms stay", row.count(2), 2);
        Check.due("he stays", row.owner(0, 0), 0);
        Check.due("undo stays", row.undo(), 0);
        Check.due("another TERRACE", Check.terrace(row, "house x;"), 1);
        Check.due("kind then", row.fault(), 0);
        Check.due("rooms then", row.count(2), 0);
        WardrobeRow anew = Check.row(HEAD + "door r s;");
        anew.burn(0);
        anew.shut(0, 1);
        anew.die(1);
        anew.minutes(5);
        Check.sentence(anew, "burnt");
        Check.terrace(anew, HEAD + "door r s;");
        Check.due("minute anew", anew.now(0), 0);
        Check.due("dead anew", anew.now(1), 0);
        Check.due("burnt anew", anew.now(2), 0);
        Check.due("shut anew", anew.passage(0, 3), 0);
        Check.due("no SENTENCE anew", anew.said(-1), -1);
        Check.due("nothing to undo anew", anew.undo(), -1);
        Check.terrace(anew, HEAD + "owner q;door r s;at o r;leave o p;leave o q;heir o p;likes o r 3;");
        Check.due("lets both", anew.owner(0, 3), 6);
        Check.due("goes", anew.go(0, 1) + anew.go(1, 1) + anew.sell(0, 0, 1), 4);
        Check.terrace(anew, HEAD);
        Check.due("where anew", anew.owner(0, 0), -1);
        Check.due("lets anew", anew.owner(0, 3), 0);
        Check.due("heir anew", anew.owner(0, 4), -1);
        Check.due("goings anew", anew.now(5), 0);
        Check.due("sales anew", anew.now(4), 0);
        Check.due("owner anew", anew.room(0, 1), 0);
        Check.due("passages anew", anew.count(3), 0);
        Check.sentence(anew, "worth > 0");
        Check.due("likings anew", anew.said(-1), 0);
    }

    private static void asking() {
        WardrobeRow row = Check.row("house g;" + HEAD + "robe s r;at p s;at o s;leave p o;heir o p;");
        Check.due("house", row.room(0, 0), 1);
        Check.due("owner", row.room(1, 1), 1);
        Check.due("not burnt", row.room(1, 2), 0);
        Check.due("people", row.room(1, 3), 3);
        Check.due("nobody", row.room(0, 3), 0);
        Check.due("passages", row.room(1, 4), 1);
        Check.dueThrown("room(2, 0)", row, 2, 0);
        Check.dueThrown("room(-1, 0)", row, -1, 0);
        Check.dueThrown("room(0, 5)", row, 0, 5);
        Check.dueThrown("room(0, -1)", row, 0, -1);
        Check.due("where", row.owner(0, 0), 1);
        Check.due("alive", row.owner(0, 1), 1);
        Check.due("owns", row.owner(1, 2), 2);
        Check.due("lets", row.owner(1, 3), 1);
        Check.due("lets nobody", row.owner(0, 3), 0);
        Check.due("heir", row.owner(0, 4), 1);
        Check.due("no heir", row.owner(1, 4), -1);
        Check.due("goings", row.owner(1, 5), 0);
        Check.due("owner(0, 6)", row.owner(0, 6), -1);
        Check.due("owner(0, -1)", row.owner(0, -1), -1);
        Check.due("owner(2, 1)", row.owner(2, 1), -1);
        Check.due("owner(-1, 1)", row.owner(-1, 1), -1);
        Check.due("one end", row.passage(0, 0), 1);
        Check.due("other end", row.passage(0, 1), 0);
        Check.due("robe", row.passage(0, 2), 1);
        Check.due("open", row.passage(0, 3), 0);
        Check.due("passage(0, 4)", row.passage(0, 4), -1);
        Check.due("passage(0, -1)", row.passage(0, -1), -1);
        Check.due("passage(1, 0)", row.passage(1, 0), -1);
        Check.due("passage(-1, 0)", row.passage(-1, 0), -1);
        row.burn(1);
        Check.due("burnt", row.room(1, 2), 1);
        Check.due("free", row.room(1, 1), -1);
        Check.due("dead", row.owner(1, 1), 0);
        Check.due("he is nowhere", row.owner(1, 0), -1);
    }
}
