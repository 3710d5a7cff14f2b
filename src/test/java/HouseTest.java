/** Promises 35 to 38: corridor, heir, guests, mixed. */
public final class HouseTest {
    private static final String TEXT = "house h;house i;house j;owner o;owner p;owner q;owner s;"
        + "room a h o;room b h p;room c i q;room d i q;heir o p;heir p q;heir q o;heir s o;leave o q;leave p q;leave q s;";

    public static void main(String[] args) {
        corridors();
        heirs();
        guests();
        mixed();
        Check.close();
    }

    private static int corridor(WardrobeRow row, int p, int... order) {
        Check.tape(row, order);
        int rooms = row.corridor(p);
        Check.due("empty tape", row.count(5), 0);
        return rooms;
    }

    private static void corridors() {
        WardrobeRow row = Check.row(TEXT);
        Check.due("p by o", corridor(row, 1, 0), 0b11);
        Check.due("q by o, p", corridor(row, 2, 0, 1), 0b1111);
        Check.due("q by p, o", corridor(row, 2, 1, 0), 0b1111);
        Check.due("s by nobody", corridor(row, 3, 0, 1, 2), 0);
        Check.due("o by q alone", corridor(row, 0, 2), 0b1101);
        Check.due("p by q, o", corridor(row, 1, 2, 0), 0b1111);
        Check.due("himself", corridor(row, 1, 1), -1);
        Check.due("himself behind another", corridor(row, 1, 0, 1), -1);
        Check.due("twice", corridor(row, 1, 0, 0), -1);
        Check.due("twice with another between", corridor(row, 1, 0, 2, 0), -1);
        Check.due("no such one in it", corridor(row, 1, 4), -1);
        Check.due("none", corridor(row, 1), -1);
        Check.due("seven", corridor(row, 1, 0, 2, 3, 0, 2, 3, 0), -1);
        Check.due("no such one", corridor(row, 4, 0) + corridor(row, -1, 0), -2);
        Check.due("all live", row.now(1), 0);
        row.die(0);
        Check.due("one is dead already", corridor(row, 2, 0, 1), 0b1111);
        Check.due("a dead one owns none", corridor(row, 0, 1, 2), 0);
        Check.due("nothing more is done", row.undo(), 0);
        WardrobeRow six = Check.row("house h;owner a;owner b;owner c;owner d;owner e;owner f;room r h a;"
            + "heir a b;heir b c;heir c d;heir d e;heir e f;");
        Check.due("five others", corridor(six, 5, 0, 1, 2, 3, 4), 1);
        Check.due("backwards", corridor(six, 5, 4, 3, 2, 1, 0), 1);
        Check.due("six are not unlike", corridor(six, 5, 0, 1, 2, 3, 4, 4), -1);
    }

    private static void heirs() {
        WardrobeRow row = Check.row(TEXT);
        Check.due("o", row.heir(0), 1);
        row.die(1);
        Check.due("o, p being dead", row.heir(0), 2);
        row.die(2);
        Check.due("it comes round", row.heir(0), -1);
        Check.due("s", row.heir(3), 0);
        Check.due("dead", row.heir(1), -1);
        row.die(0);
        Check.due("a round of dead ones", row.heir(3), -1);
        Check.due("no such ones", row.heir(4) + row.heir(-1), -2);
    }

    private static void guests() {
        WardrobeRow row = Check.row(TEXT);
        Check.due("h: q", row.guests(0), 0b0100);
        Check.due("i: s", row.guests(1), 0b1000);
        Check.due("j: all", row.guests(2), 0b1111);
        Check.due("no such ones", row.guests(3) + row.guests(-1), -2);
        row.let(1, 3, 1);
        Check.due("h: s is let by p alone", row.guests(0), 0b0100);
        row.let(0, 3, 1);
        Check.due("h: s is let by both", row.guests(0), 0b1100);
        row.let(1, 3, 0);
        Check.due("h: s is let by o alone", row.guests(0), 0b0100);
        row.let(0, 3, 0);
        row.die(2);
        Check.due("i is o's: none let but q", row.guests(1), 0);
        Check.due("h: q is dead", row.guests(0), 0);
        Check.due("j: all that live", row.guests(2), 0b1011);
        row.die(0);
        row.die(1);
        Check.due("nobody owns h", row.guests(0), 0b1000);
    }

    private static void mixed() {
        WardrobeRow row = Check.row(TEXT);
        Check.due("h", row.mixed(), 1);
        row.sell(1, 1, 0);
        Check.due("h is o's", row.mixed(), 0);
        row.sell(2, 3, 0);
        Check.due("i", row.mixed(), 2);
        WardrobeRow free = Check.row("house h;owner o;room a h o;");
        Check.due("his", free.mixed(), 0);
        free.burn(0);
        Check.due("burnt, but his", free.mixed(), 0);
        free.die(0);
        Check.due("nobody's", free.mixed(), 1);
    }
}
