/** Promises 20 to 25 and 34: way, step, barred, asks, asked, through, walked. */
public final class WayTest {
    /**
     * Rooms 0 a of o, 1 b of p, 2 c of q, 3 d of o, 4 e of p, 5 f of o, alone. Passages 0 a-c, 1 a-b, 2 c-d, 3 b-d,
     * 4 d-e (a robe). o is in a and may enter all of p and of q.
     */
    private static final String TEXT = "house h;owner o;owner p;owner q;room a h o;room b h p;room c h q;room d h o;"
        + "room e h p;room f h o;door a c;door a b;door c d;door b d;robe d e;at o a;leave p o;leave q o;";

    public static void main(String[] args) {
        ways();
        longest();
        latest();
        bars();
        asking();
        meeting();
        walking();
        Check.close();
    }

    private static void ways() {
        WardrobeRow row = Check.row(TEXT);
        Check.due("three goings", row.way(0, 4), 3);
        Check.due("least first", row.step(0), 1);
        Check.due("then", row.step(1), 3);
        Check.due("last", row.step(2), 4);
        Check.due("no more", row.step(3), -1);
        Check.due("before", row.step(-1), -1);
        row.let(1, 0, 0);
        Check.due("e is p's", row.way(0, 4), -1);
        Check.due("to d by c", row.way(0, 3), 2);
        Check.due("c", row.step(0), 2);
        row.shut(2, 1);
        Check.due("shut", row.way(0, 3), -1);
        row.shut(2, 0);
        row.burn(2);
        Check.due("burnt", row.way(0, 3), -1);
        Check.due("alone", row.way(0, 5), -1);
        Check.due("he is there", row.way(0, 0), 0);
        row.leave(0);
        Check.due("out, by leave", row.way(0, 5), 1);
        Check.due("that room", row.step(0), 5);
        Check.due("out, to burnt", row.way(0, 2), -1);
        Check.due("out, without leave", row.way(0, 1), -1);
        row.die(0);
        Check.due("dead", row.way(0, 5), -1);
        Check.due("free then", row.way(1, 5), 1);
        Check.due("no such ones", row.way(3, 0) + row.way(-1, 0) + row.way(0, 6) + row.way(0, -1), -4);
        // one who is in without leave may go on from there
        WardrobeRow stays = Check.row("house h;owner o;owner p;room a h p;room b h o;door a b;at o a;");
        Check.due("from another one's room", stays.way(0, 1), 1);
        Check.due("where he is", stays.way(0, 0), 0);
        stays.go(0, 1);
        Check.due("not back", stays.way(0, 0), -1);
    }

    private static void longest() {
        StringBuilder text = new StringBuilder("house hh;owner oo;");
        for (char r = 'a'; r < 'm'; r++) {
            text.append("room ").append(r).append(" hh oo;");
        }
        for (char r = 'a'; r < 'l'; r++) {
            text.append("door ").append(r).append(' ').append((char) (r + 1)).append(';');
        }
        WardrobeRow row = Check.row(text + "at oo a;");
        Check.due("through all", row.way(0, 11), 11);
        for (int i = 0; i < 11; i++) {
            Check.due("step " + i, row.step(i), i + 1);
        }
        Check.due("no more", row.step(11), -1);
        Check.due("nothing barred", row.barred(0), 0);
        row.burn(11);
        Check.due("the fire's longest way", row.fire(0), 11);
        Check.due("all but one", row.spread(10), 0b111111111110);
        Check.due("all", row.spread(11), 0b111111111111);
    }

    private static void latest() {
        WardrobeRow row = Check.row(TEXT);
        Check.due("ahead of any", row.step(0), -1);
        Check.due("none", row.way(1, 0), -1);
        Check.due("none yet", row.step(0), -1);
        row.way(0, 3);
        row.way(1, 0);
        row.through(0, 4);
        Check.due("that of the latest that was", row.step(1), 3);
        Check.due("not of through()", row.step(2), -1);
        row.burn(3);
        Check.due("stays", row.step(1), 3);
        row.way(0, 0);
        Check.due("one of no goings", row.step(0), -1);
    }

    private static void bars() {
        WardrobeRow row = Check.row(TEXT);
        Check.due("o", row.barred(0), 0b100000);
        Check.due("p, out", row.barred(1), 0b101101);
        row.let(1, 0, 0);
        Check.due("o without p", row.barred(0), 0b110010);
        row.burn(3);
        Check.due("d burnt", row.barred(0), 0b111010);
        row.die(0);
        Check.due("dead", row.barred(0), 0b111111);
        Check.due("no such ones", row.barred(3) + row.barred(-1), -2);
    }

    private static void asking() {
        WardrobeRow row = Check.row(TEXT);
        Check.due("ahead of any", row.asked(), -1);
        Check.due("none needed", row.asks(0, 4), 0);
        Check.due("nobody", row.asked(), 0);
        row.let(1, 0, 0);
        row.let(2, 0, 0);
        Check.due("p alone is enough for e", row.asks(0, 4), 1);
        Check.due("p", row.asked(), 2);
        Check.due("d by p or q", row.asks(0, 3), 1);
        Check.due("the least as bits", row.asked(), 2);
        row.shut(1, 1);
        Check.due("e by both", row.asks(0, 4), 2);
        Check.due("p and q", row.asked(), 6);
        Check.due("d by q", row.asks(0, 3), 1);
        Check.due("q", row.asked(), 4);
        Check.due("alone", row.asks(0, 5), -1);
        Check.due("the latest that was stays", row.asked(), 4);
        row.burn(3);
        Check.due("burnt", row.asks(0, 3), -1);
        Check.due("behind burnt", row.asks(0, 4), -1);
        Check.due("out", row.asks(1, 0), 1);
        Check.due("o", row.asked(), 1);
        Check.due("free ones need not be asked", row.asks(1, 2), 1);
        row.die(2);
        Check.due("free now", row.asks(1, 2), 0);
        row.die(0);
        Check.due("dead", row.asks(0, 0), -1);
        Check.due("no such ones", row.asks(3, 0) + row.asks(-1, 0) + row.asks(0, 6) + row.asks(0, -1), -4);
        // fewer ahead of the least as bits
        WardrobeRow few = Check.row("house h;owner o;owner p;owner q;owner s;room a h o;room b h p;room c h q;"
            + "room d h s;room e h o;door a b;door b c;door c e;door a d;door d e;at o a;");
        Check.due("s alone", few.asks(0, 4), 1);
        Check.due("s", few.asked(), 8);
    }

    private static void meeting() {
        WardrobeRow row = Check.row(TEXT);
        Check.due("p twice, himself not", row.through(0, 4), 2);
        row.shut(1, 1);
        Check.due("q and p", row.through(0, 4), 6);
        Check.due("there", row.through(0, 0), 0);
        Check.due("alone", row.through(0, 5), -1);
        row.die(2);
        Check.due("a free room has none", row.through(0, 3), 0);
        Check.due("out", row.through(1, 1), 0);
        row.die(0);
        Check.due("dead", row.through(0, 0), -1);
        Check.due("no such ones", row.through(3, 0) + row.through(-1, 0) + row.through(0, 6) + row.through(0, -1), -4);
    }

    private static int walked(WardrobeRow row, int... rooms) {
        Check.tape(row, rooms);
        int who = row.walked();
        Check.due("empty tape", row.count(5), 0);
        return who;
    }

    private static void walking() {
        WardrobeRow row = Check.row(TEXT);
        Check.due("a b d e", walked(row, 0, 1, 3, 4), 1);
        Check.due("f, out or not", walked(row, 5), 1);
        Check.due("b", walked(row, 1), 3);
        Check.due("no door", walked(row, 0, 3), 0);
        Check.due("not twice the same", walked(row, 0, 0), 0);
        Check.due("no leave within", walked(row, 4, 3), 1);
        row.shut(1, 1);
        Check.due("shut", walked(row, 0, 1), 0);
        row.burn(2);
        Check.due("burnt", walked(row, 0, 2), 0);
        Check.due("burnt at first", walked(row, 2), 0);
        int[] twenty = new int[20];
        int[] more = new int[21];
        for (int i = 0; i < 21; i++) {
            more[i] = i % 2 == 0 ? 3 : 4;
            twenty[Math.min(i, 19)] = more[Math.min(i, 19)];
        }
        Check.due("20", walked(row, twenty), 1);
        Check.due("21", walked(row, more), -1);
        Check.due("0", walked(row), -1);
        Check.due("no such room", walked(row, 3, 6), -1);
        row.die(0);
        Check.due("the dead do not walk", walked(row, 3), 2 | 4);
    }
}
