/** Promises 26 to 28: fire, spread, cut. */
public final class FireTest {
    /** Rooms 0 to 5: a-b door 0, b-c robe 1, c-d door 2, a-e door 3, e-d door 4; f alone. */
    private static final String TEXT = "house h;owner o;room a h o;room b h o;room c h o;room d h o;room e h o;"
        + "room f h o;door a b;robe b c;door c d;door a e;door e d;";

    public static void main(String[] args) {
        WardrobeRow row = Check.row(TEXT);
        Check.due("no fire", row.fire(0), -1);
        Check.due("no fire spreads", row.spread(60), 0);
        Check.due("nothing to cut", row.cut(3), 0);
        row.burn(0);
        Check.due("burnt", row.fire(0), 0);
        Check.due("next", row.fire(1), 1);
        Check.due("by e", row.fire(3), 2);
        Check.due("never", row.fire(5), -1);
        Check.due("now", row.spread(0), 1);
        Check.due("1", row.spread(1), 0b10011);
        Check.due("2", row.spread(2), 0b11111);
        Check.due("60", row.spread(60), 0b11111);
        Check.due("not as told", row.spread(61) + row.spread(-1), -2);
        Check.due("two doors for d", row.cut(3), 2);
        Check.due("two doors for b: its own and c's side", row.cut(1), 2);
        Check.due("two doors for c behind the robe", row.cut(2), 2);
        Check.due("e", row.cut(4), 2);
        Check.due("f", row.cut(5), 0);
        Check.due("burnt", row.cut(0), -1);
        row.shut(3, 1);
        Check.due("one is shut", row.cut(3), 1);
        Check.due("e by d", row.fire(4), 4);
        Check.due("one", row.cut(4), 1);
        row.burn(1);
        Check.due("a robe can't be shut", row.cut(2), -1);
        Check.due("d behind it", row.cut(3), 1);
        row.shut(2, 1);
        Check.due("safe", row.cut(3), 0);
        Check.due("never now", row.fire(3), -1);
        Check.due("nothing burnt by asking", row.now(2), 0b11);
        Check.due("no such ones", row.fire(6) + row.fire(-1) + row.cut(6) + row.cut(-1), -4);
        crossing();
        Check.close();
    }

    /** A fire's ways that must give way to one another: the first way found is not one of the best. */
    private static void crossing() {
        WardrobeRow row = Check.row("house h;owner o;room s h o;room a h o;room b h o;room c h o;room d h o;room t h o;"
            + "door s a;door s b;door a d;door b c;door a c;door b d;door c t;door d t;door s t;");
        row.burn(0);
        Check.due("three ways", row.cut(5), 3);
        WardrobeRow robes = Check.row("house h;owner o;room s h o;room a h o;room b h o;room t h o;"
            + "robe a b;door s a;door s b;door a t;");
        robes.burn(0);
        Check.due("many through one robe, one door behind it", robes.cut(3), 1);
        Check.due("two into the robe", robes.cut(2), 2);
    }
}
