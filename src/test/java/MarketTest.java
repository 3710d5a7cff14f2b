/** Promises 29 to 33: exchange, rings, prices, price, wants. */
public final class MarketTest {
    private static final String HEAD = "house h;owner o;owner p;owner q;owner s;"
        + "room a h o;room b h p;room c h q;room d h s;room e h o;";

    public static void main(String[] args) {
        exchanges();
        prices();
        manyRounds();
        Check.close();
    }

    private static void exchanges() {
        WardrobeRow row = Check.row(HEAD + "likes o b 5;likes p c 5;likes q a 5;likes s a 9;likes s d 1;");
        Check.due("o", row.exchange(0), 1);
        Check.due("p", row.exchange(1), 2);
        Check.due("q", row.exchange(2), 0);
        Check.due("s comes too late", row.exchange(3), 3);
        Check.due("one ring of three", row.rings(), 1);
        row.die(2);
        // q's room is free, so p keeps b, then o keeps a, his own
        Check.due("o without q", row.exchange(0), 0);
        Check.due("p without q", row.exchange(1), 1);
        Check.due("dead", row.exchange(2), -1);
        Check.due("no ring of more", row.rings(), 0);
        WardrobeRow burnt = Check.row(HEAD + "likes p e 3;likes o b 3;");
        Check.due("e is not brought", burnt.exchange(1), 1);
        burnt.burn(0);
        Check.due("e is the first not burnt", burnt.exchange(1), 4);
        Check.due("o then", burnt.exchange(0), 1);
        Check.due("one ring", burnt.rings(), 1);
        burnt.burn(2);
        Check.due("q brings nothing", burnt.exchange(2), -1);
        WardrobeRow like = Check.row(HEAD + "likes s b 4;likes s c 4;likes s d 4;likes p d 2;likes p c 2;likes q b 1;");
        Check.due("his own of like ones", like.exchange(3), 3);
        Check.due("p: c ahead of d", like.exchange(1), 2);
        Check.due("q", like.exchange(2), 1);
        Check.due("nobody without liking moves", like.exchange(0), 0);
        WardrobeRow second = Check.row(HEAD + "likes o b 9;likes p a 9;"
            + "likes q a 9;likes q d 5;likes s b 9;likes s c 5;");
        Check.due("two rings, one behind the other", second.rings(), 2);
        Check.due("q has d", second.exchange(2), 3);
        Check.due("s has c", second.exchange(3), 2);
        Check.due("no such ones", second.exchange(4) + second.exchange(-1), -2);
        Check.due("nothing changed", second.room(0, 1), 0);
    }

    private static void prices() {
        WardrobeRow row = Check.row(HEAD + "likes o a 3;likes p a 5;likes q b 2;likes o b 1;");
        Check.due("ahead of any", row.price(0), -1);
        Check.due("ahead of any", row.wants(0), -1);
        // round 1: o, p want a; 2: o 2, p 4; 3: o has a and b alike at 1, a is first; 4: o 0 < 1 wants b with q (2);
        // 5: b costs 1: o has a at 0 and b at 0: a is first; 6: a costs 4: o a -1, b 0 wants b with q (1);
        // 7: b costs 2: o none
        Check.due("rounds", row.prices(), 7);
        Check.due("a", row.price(0), 4);
        Check.due("b", row.price(1), 2);
        Check.due("c", row.price(2), 0);
        Check.due("o wants none", row.wants(0), -1);
        Check.due("p", row.wants(1), 0);
        Check.due("q at 0", row.wants(2), 1);
        Check.due("s", row.wants(3), -1);
        Check.due("no such ones", row.price(5) + row.price(-1) + row.wants(4) + row.wants(-1), -4);
        row.die(1);
        Check.due("the latest stays", row.price(0), 4);
        Check.due("without p", row.prices(), 1);
        Check.due("a then", row.price(0), 0);
        Check.due("the dead want none", row.wants(1), -1);
        Check.due("o then", row.wants(0), 0);
        row.burn(0);
        Check.due("without a", row.prices(), 3);
        Check.due("b then", row.price(1), 2);
        Check.due("a has none wanting", row.price(0), 0);
        Check.due("o wants not what is burnt", row.wants(0), -1);
    }

    private static void manyRounds() {
        StringBuilder text = new StringBuilder("house hh;owner oo;owner pp;");
        for (char r = 'a'; r < 'm'; r++) {
            text.append("room ").append(r).append(" hh oo;");
        }
        for (char r = 'a'; r < 'm'; r++) {
            text.append("likes oo ").append(r).append(" 9;likes pp ").append(r).append(" 9;");
        }
        WardrobeRow row = Check.row(text.toString());
        // one price a round: 99 rounds raise the first three of twelve rooms nine times, the others eight times
        Check.due("99 at most", row.prices(), 99);
        Check.due("first", row.price(0), 9);
        Check.due("third", row.price(2), 9);
        Check.due("fourth", row.price(3), 8);
        Check.due("wanted last", row.wants(0), 2);
        Check.due("wanted last", row.wants(1), 2);
    }
}
