import java.math.BigInteger;

/**
 * The edges of what may be asked: ways, askings, fires, exchanges, prices, walks, corridors, houses and draws. Each
 * method is about the sentence of the document that it names.
 */
public final class AskEdgeTest {
    /** Owners o, p, q; rooms 0 a of o, 1 b of p, 2 c of q, 3 d of o, 4 e of p; passages 0 a-b, 1 b-c (a robe), 2 c-d. */
    private static final String TEXT = "house h;owner o;owner p;owner q;room a h o;room b h p;room c h q;room d h o;"
        + "room e h p;door a b;robe b c;door c d;at o a;";
    private static final int FAR = Integer.MAX_VALUE;
    private static final int LOW = Integer.MIN_VALUE;
    private static final int[] NO_SUCH_OWNERS = {3, -1, 6, 32, FAR, LOW};
    private static final int[] NO_SUCH_ROOMS = {5, -1, 12, 32, FAR, LOW};

    public static void main(String[] args) {
        wayOfNone();
        wayOfTheDead();
        wayAsItIs();
        steps();
        stepsFarthest();
        stepsOfTheLatest();
        barred();
        askedFewest();
        askedOfTheLatest();
        askedNone();
        through();
        fire();
        spread();
        cut();
        cutAtMost();
        exchangeWhoComes();
        exchangeLikings();
        rings();
        priceRounds();
        pricesLikings();
        pricesAtMost();
        pricesOfTheLatest();
        walked();
        walkedLength();
        corridor();
        corridorLength();
        heir();
        guests();
        mixed();
        drawn();
        drawnWraps();
        odds();
        noSuchOnes();
        Check.close();
    }

    private static WardrobeRow row() {
        return Check.row(TEXT);
    }

    private static void wayOfNone() {
        Check.about("A WAY: (0: he is there)");
        WardrobeRow row = row();
        Check.due("way(0, 0)", row.way(0, 0), 0);
        WardrobeRow guest = Check.row(TEXT + "at p a;");
        Check.due("without leave, too", guest.way(1, 0), 0);
        Check.due("nobody is met", guest.through(1, 0), 0);
        Check.due("nobody is asked", guest.asks(1, 0), 0);
        Check.due("it is not barred", guest.barred(1) & 1, 0);
        Check.about("the fewest goings: one who is out comes in to any ROOM by leave");
        Check.due("from out to his own", row.way(2, 2), 1);
        Check.due("from out without leave", row.way(2, 1), -1);
        row.die(0);
        Check.due("from out to a free one", row.way(2, 3), 1);
    }

    private static void wayOfTheDead() {
        Check.about("dead ones have none");
        WardrobeRow row = row();
        row.die(0);
        for (int r = 0; r < 5; r++) {
            Check.due("way(0, " + r + ")", row.way(0, r), -1);
            Check.due("through(0, " + r + ")", row.through(0, r), -1);
            Check.due("asks(0, " + r + ")", row.asks(0, r), -1);
        }
        Check.due("barred(0)", row.barred(0), 0b11111);
    }

    private static void wayAsItIs() {
        Check.about("by leave (as it is); burnt ROOMS, shut doors as now");
        WardrobeRow row = row();
        Check.due("without leave", row.way(0, 3), -1);
        row.let(1, 0, 1);
        Check.due("with p's alone", row.way(0, 3), -1);
        row.let(2, 0, 1);
        Check.due("with both", row.way(0, 3), 3);
        row.shut(2, 1);
        Check.due("shut", row.way(0, 3), -1);
        row.shut(2, 0);
        row.burn(2);
        Check.due("burnt on it", row.way(0, 3), -1);
        row.undo();
        row.burn(3);
        Check.due("burnt at its end", row.way(0, 3), -1);
        Check.due("up to it", row.way(0, 2), 2);
        row.let(1, 0, 0);
        Check.due("leave taken back", row.way(0, 2), -1);
    }

    private static void steps() {
        Check.about("step: that by which each is the least that may be; i from 0; NONE: none such");
        // a to f by b or c, then d or e: b leads to e alone, c to d and e
        WardrobeRow row = Check.row("house h;owner o;room a h o;room b h o;room c h o;room d h o;room e h o;room f h o;"
            + "door e f;door d f;door c e;door c d;door b e;door a c;door a b;at o a;");
        Check.due("way", row.way(0, 5), 3);
        Check.due("b, the first least", row.step(0), 1);
        Check.due("e, the least then", row.step(1), 4);
        Check.due("f", row.step(2), 5);
        for (int i : new int[] {3, -1, -2, 12, 32, FAR, LOW}) {
            Check.due("step(" + i + ")", row.step(i), -1);
        }
        row.shut(6, 1);
        row.way(0, 5);
        Check.due("c", row.step(0), 2);
        Check.due("d, the least from there", row.step(1), 3);
        // a shorter one is taken, though a longer one has lesser ROOMS
        WardrobeRow shorter = Check.row("house h;owner o;room a h o;room b h o;room c h o;room d h o;room e h o;"
            + "door a b;door b c;door c e;door a d;door d e;at o a;");
        Check.due("two", shorter.way(0, 4), 2);
        Check.due("d", shorter.step(0), 3);
    }

    private static void stepsFarthest() {
        Check.about("step: the first ROOM and the last, on the longest WAY that can be");
        StringBuilder text = new StringBuilder("house hh;owner oo;" + Check.lines("room", 12, " hh oo"));
        for (char r = 'a'; r < 'l'; r++) {
            text.append("door ").append(r).append(' ').append((char) (r + 1)).append(';');
        }
        WardrobeRow up = Check.row(text + "at oo a;");
        WardrobeRow down = Check.row(text + "at oo l;");
        Check.due("to the last", up.way(0, 11), 11);
        Check.due("to the first", down.way(0, 0), 11);
        for (int i = 0; i < 11; i++) {
            Check.due("step(" + i + ") up", up.step(i), i + 1);
            Check.due("step(" + i + ") down", down.step(i), 10 - i);
        }
        Check.due("no more", up.step(11) + down.step(11), -2);
        Check.due("none is barred", up.barred(0) + down.barred(0), 0);
        Check.due("none is asked", up.asks(0, 11) + down.asks(0, 0), 0);
        up.burn(11);
        Check.due("the longest that a fire needs", up.fire(0), 11);
        Check.due("all but the first", up.spread(10), 0b111111111110);
        Check.due("all", up.spread(11), 0b111111111111);
    }

    private static void stepsOfTheLatest() {
        Check.about("of the latest way() that was 0 or more; NONE ahead of any");
        WardrobeRow row = row();
        Check.due("ahead of any", row.step(0), -1);
        row.way(0, 3);
        Check.due("ahead of any that was", row.step(0), -1);
        row.way(2, 2);
        Check.due("c", row.step(0), 2);
        row.way(0, 3);
        row.way(7, 7);
        row.through(1, 4);
        row.asks(1, 4);
        row.barred(1);
        Check.due("stays", row.step(0), 2);
        row.burn(2);
        row.image(0);
        row.restore(0);
        row.undo();
        Check.due("stays", row.step(0), 2);
        row.way(0, 0);
        Check.due("one of 0 has none", row.step(0), -1);
    }

    private static void barred() {
        Check.about("barred: ROOMS to which an OWNER has no WAY, as bits");
        WardrobeRow row = row();
        Check.due("o, in a", row.barred(0), 0b11110);
        Check.due("p, out", row.barred(1), 0b01101);
        row.burn(1);
        Check.due("p, b being burnt", row.barred(1), 0b01111);
        WardrobeRow one = Check.row("house h;owner o;room a h o;");
        Check.due("none", one.barred(0), 0);
        WardrobeRow none = Check.row("owner o;");
        Check.due("without ROOMS", none.barred(0), 0);
    }

    private static final String SIX = "house h;owner a;owner b;owner c;owner d;owner e;owner f;";

    private static void askedFewest() {
        Check.about("ASKED: the fewest others who must let one (anew); of like ones the least as bits");
        WardrobeRow row = Check.row(SIX + "room ra h a;room rb h b;room rc h c;room rd h d;room re h e;room rf h f;"
            + "door ra rb;door rb rc;door rc rd;door rd re;door re rf;at a ra;");
        Check.due("all five others", row.asks(0, 5), 5);
        Check.due("as bits", row.asked(), 0b111110);
        row.let(2, 0, 1);
        Check.due("one lets him already", row.asks(0, 5), 4);
        Check.due("as bits", row.asked(), 0b111010);
        row.die(3);
        Check.due("a free one need not be asked for", row.asks(0, 5), 3);
        Check.due("as bits", row.asked(), 0b110010);
        row.will(4, 0);
        row.die(4);
        Check.due("his own neither", row.asks(0, 5), 2);
        Check.due("as bits", row.asked(), 0b100010);
        // two ways of one asking each, by c or by f; and one of none by leave
        WardrobeRow like = Check.row(SIX + "room ra h a;room rf h f;room rc h c;room rz h a;room rb h b;"
            + "door ra rf;door rf rz;door ra rc;door rc rz;door ra rb;door rb rz;at a ra;");
        Check.due("one", like.asks(0, 3), 1);
        Check.due("b is the least", like.asked(), 0b000010);
        like.shut(4, 1);
        Check.due("one", like.asks(0, 3), 1);
        Check.due("c is less than f", like.asked(), 0b000100);
        like.let(5, 0, 1);
        Check.due("none, by f's leave", like.asks(0, 3), 0);
        Check.due("nobody", like.asked(), 0);
        // fewer ahead of less: b and c together or f alone
        WardrobeRow fewer = Check.row(SIX + "room ra h a;room rb h b;room rc h c;room rf h f;room rz h a;"
            + "door ra rb;door rb rc;door rc rz;door ra rf;door rf rz;at a ra;");
        Check.due("one", fewer.asks(0, 4), 1);
        Check.due("f alone", fewer.asked(), 0b100000);
        Check.about("no leave is given by asking");
        Check.due("way stays none", fewer.way(0, 4), -1);
        Check.due("nobody lets", fewer.owner(5, 3), 0);
    }

    private static void askedOfTheLatest() {
        Check.about("asked: by the latest asks() that was 0 or more; NONE ahead of any");
        WardrobeRow row = row();
        Check.due("ahead of any", row.asked(), -1);
        row.asks(0, 4);
        row.asks(9, 9);
        Check.due("ahead of any that was", row.asked(), -1);
        row.asks(0, 1);
        Check.due("p", row.asked(), 0b010);
        Check.due("e can't be", row.asks(0, 4), -1);
        row.asks(0, 5);
        row.way(0, 0);
        Check.due("stays", row.asked(), 0b010);
        row.asks(0, 0);
        Check.due("nobody", row.asked(), 0);
    }

    private static void askedNone() {
        Check.about("asks: NONE: it can't be");
        WardrobeRow row = row();
        Check.due("no PASSAGE", row.asks(0, 4), -1);
        row.burn(4);
        Check.due("burnt", row.asks(1, 4), -1);
        row.burn(2);
        Check.due("behind a burnt one", row.asks(0, 3), -1);
        row.shut(0, 1);
        Check.due("behind a shut door", row.asks(0, 1), -1);
        Check.due("from out: one", row.asks(2, 0), 1);
        Check.due("o", row.asked(), 0b001);
    }

    private static void through() {
        Check.about("through: OWNERS whose ROOMS are entered on the WAY (others than himself); NONE: as way() is");
        WardrobeRow row = Check.row(TEXT + "leave p o;leave q o;leave o q;");
        Check.due("p and q, himself not", row.through(0, 3), 0b110);
        Check.due("p alone", row.through(0, 1), 0b010);
        Check.due("out to another one's", row.through(2, 0), 0b001);
        Check.due("out to his own", row.through(1, 1), 0);
        row.die(2);
        Check.due("a free one is nobody's", row.through(0, 2), 0b010);
        Check.due("none", row.through(1, 0), -1);
        StringBuilder text = new StringBuilder("house hh;owner oo;owner pp;" + Check.lines("room", 11, " hh oo")
            + "room l hh pp;leave pp oo;at oo a;");
        for (char r = 'a'; r < 'l'; r++) {
            text.append("door ").append(r).append(' ').append((char) (r + 1)).append(';');
        }
        Check.due("the last of eleven", Check.row(text.toString()).through(0, 11), 0b10);
        // the ROOM that he leaves is not entered
        WardrobeRow left = Check.row("house h;owner o;owner p;room a h p;room b h o;door a b;at o a;");
        Check.due("from p's to his own", left.through(0, 1), 0);
    }

    private static void fire() {
        Check.about("fire: MINUTES (0: it is burnt); NONE: never");
        WardrobeRow row = row();
        Check.due("no fire", row.fire(0), -1);
        row.burn(0);
        Check.due("burnt", row.fire(0), 0);
        Check.due("next", row.fire(1), 1);
        Check.due("by the robe", row.fire(2), 2);
        Check.due("behind it", row.fire(3), 3);
        Check.due("alone", row.fire(4), -1);
        row.shut(2, 1);
        Check.due("behind a shut door", row.fire(3), -1);
        for (int i = 0; i < 16; i++) {
            row.minutes(60);
        }
        row.undo();
        row.undo();
        row.minutes(60);
        Check.due("all that can be is burnt", row.now(2), 0b00111);
        WardrobeRow two = row();
        two.burn(0);
        two.burn(3);
        Check.due("the nearer of two", two.fire(2), 1);
        WardrobeRow late = row();
        for (int i = 0; i < 16; i++) {
            late.minutes(60);
        }
        late.minutes(39);
        late.burn(0);
        Check.due("at MINUTE 999, too", late.fire(3), 3);
        Check.due("and so it spreads", late.spread(60), 0b01111);
    }

    private static void spread() {
        Check.about("spread: n (0 to 60); NONE: not as told");
        WardrobeRow row = row();
        Check.due("nothing", row.spread(0) + row.spread(60), 0);
        row.burn(0);
        Check.due("spread(0)", row.spread(0), 0b00001);
        Check.due("spread(1)", row.spread(1), 0b00011);
        Check.due("spread(2)", row.spread(2), 0b00111);
        Check.due("spread(3)", row.spread(3), 0b01111);
        Check.due("spread(60)", row.spread(60), 0b01111);
        for (int n : new int[] {-1, 61, FAR, LOW}) {
            Check.due("spread(" + n + ")", row.spread(n), -1);
        }
        Check.due("nothing burns by asking", row.now(2), 1);
        Check.due("without a TERRACE", new WardrobeRow().spread(60), 0);
    }

    private static void cut() {
        Check.about("cut: the fewest open doors that must be shut now; NONE: it can't be, it is burnt");
        WardrobeRow row = row();
        Check.due("no fire: none", row.cut(0), 0);
        row.burn(1);
        Check.due("burnt", row.cut(1), -1);
        Check.due("behind a robe", row.cut(2), -1);
        Check.due("behind a robe and a door", row.cut(3), 1);
        Check.due("behind a door", row.cut(0), 1);
        Check.due("alone: none", row.cut(4), 0);
        row.shut(0, 1);
        Check.due("shut already: none", row.cut(0), 0);
        Check.due("nothing is shut by asking", row.passage(2, 3), 0);
        // two robes in a row
        WardrobeRow robes = Check.row("house h;owner o;room a h o;room b h o;room c h o;robe a b;robe b c;door a c;");
        robes.burn(0);
        Check.due("through two robes", robes.cut(2), -1);
    }

    private static void cutAtMost() {
        Check.about("CUT: the fewest open doors");
        // eleven doors lead from one ROOM to all others, the fire being in all of these
        StringBuilder star = new StringBuilder("house hh;owner oo;" + Check.lines("room", 12, " hh oo"));
        for (char r = 'a'; r < 'l'; r++) {
            star.append("door l ").append(r).append(';');
        }
        WardrobeRow row = Check.row(star.toString());
        for (int r = 0; r < 11; r++) {
            Check.due("so many fires", row.cut(11), r);
            row.burn(r);
        }
        Check.due("eleven doors", row.cut(11), 11);
        // the narrowest place is in the middle: one door between two groups of four joined by robes and doors
        WardrobeRow waist = Check.row("house h;owner o;room a h o;room b h o;room c h o;room d h o;room e h o;room f h o;"
            + "door a b;door a c;robe b c;door c d;robe d e;door e f;door d f;");
        waist.burn(0);
        Check.due("one in the middle", waist.cut(5), 1);
        Check.due("two at the fire", waist.cut(2), 2);
        // the only door is at the fire, the longest row of robes leads on from it, told from its end
        StringBuilder far = new StringBuilder("house hh;owner oo;" + Check.lines("room", 12, " hh oo"));
        for (char r = 'k'; r > 'a'; r--) {
            far.append("robe ").append(r).append(' ').append((char) (r + 1)).append(';');
        }
        WardrobeRow last = Check.row(far + "door a b;");
        last.burn(0);
        Check.due("the door at the other end", last.cut(11), 1);
        last.burn(1);
        Check.due("robes alone", last.cut(11), -1);
        // c has four doors, all of them at the fire or open to it behind one more
        WardrobeRow turned = Check.row("house hh;owner oo;room a hh oo;room b hh oo;room c hh oo;room d hh oo;room e hh oo;"
            + "door c b;door b a;door d b;door d c;door e c;door e b;robe d a;door c a;");
        turned.burn(0);
        Check.due("all four of c", turned.cut(2), 4);
        Check.due("two of e", turned.cut(4), 2);
        Check.due("d behind the robe", turned.cut(3), -1);
    }

    private static void exchangeWhoComes() {
        Check.about("all who live and own a ROOM that is not burnt come with the first such of theirs; NONE: he does not come");
        WardrobeRow row = Check.row(TEXT + "owner s;likes o e 5;likes o b 1;likes p d 5;");
        Check.due("s owns none", row.exchange(3), -1);
        Check.due("e is not p's first", row.exchange(0), 0);
        Check.due("d is not o's first", row.exchange(1), 1);
        row.leave(0);
        row.burn(0);
        Check.due("o comes with d", row.exchange(1), 3);
        Check.due("and has b", row.exchange(0), 1);
        row.burn(1);
        Check.due("p comes with e", row.exchange(0), 4);
        row.burn(4);
        Check.due("p has none that is not burnt", row.exchange(1), -1);
        Check.due("o keeps d", row.exchange(0), 3);
        row.die(0);
        Check.due("dead", row.exchange(0), -1);
        Check.due("a free ROOM is nobody's", row.exchange(2), 2);
    }

    private static void exchangeLikings() {
        Check.about("likes most (0 without; of like ones his own ahead of all, then the first)");
        String head = "house h;owner o;owner p;owner q;room a h o;room b h p;room c h q;";
        WardrobeRow none = Check.row(head);
        Check.due("nobody likes any: his own", none.exchange(0) * 100 + none.exchange(1) * 10 + none.exchange(2), 12);
        WardrobeRow own = Check.row(head + "likes q a 5;likes q b 5;likes q c 5;likes o c 1;");
        Check.due("his own of like ones", own.exchange(2), 2);
        Check.due("o too late", own.exchange(0), 0);
        WardrobeRow first = Check.row(head + "likes q b 5;likes q a 5;likes q c 4;likes o c 1;likes p c 1;");
        Check.due("the first of like ones", first.exchange(2), 0);
        Check.due("o", first.exchange(0), 2);
        Check.due("p too late", first.exchange(1), 1);
        WardrobeRow more = Check.row(head + "likes q a 1;likes o c 1;");
        Check.due("1 is more than 0 of his own", more.exchange(2), 0);
        Check.about("are gone with their ROOMS; and so on");
        WardrobeRow next = Check.row(head + "likes p a 9;likes p c 1;likes q a 9;likes q b 1;likes o a 1;");
        Check.due("o keeps a", next.exchange(0), 0);
        Check.due("p has c then", next.exchange(1), 2);
        Check.due("q has b then", next.exchange(2), 1);
        // each waits for the one ahead of him to be gone, so that all six go one by one
        WardrobeRow row = Check.row(SIX + "room ra h a;room rb h b;room rc h c;room rd h d;room re h e;room rf h f;"
            + "likes b ra 1;likes c rb 1;likes d rc 1;likes e rd 1;likes f re 1;");
        for (int p = 0; p < 6; p++) {
            Check.due("at last his own", row.exchange(p), p);
        }
        Check.due("no ring of more than one", row.rings(), 0);
    }

    private static void rings() {
        Check.about("Rings in it of more than one");
        Check.due("without a TERRACE", new WardrobeRow().rings(), 0);
        String six = SIX + "room ra h a;room rb h b;room rc h c;room rd h d;room re h e;room rf h f;";
        Check.due("six of one", Check.row(six).rings(), 0);
        WardrobeRow one = Check.row(six + "likes a rb 1;likes b rc 1;likes c rd 1;likes d re 1;likes e rf 1;likes f ra 1;");
        Check.due("one of six", one.rings(), 1);
        for (int p = 0; p < 6; p++) {
            Check.due("each has the next", one.exchange(p), (p + 1) % 6);
        }
        WardrobeRow three = Check.row(six + "likes a rb 1;likes b ra 1;likes c rd 1;likes d rc 1;likes e rf 1;likes f re 1;");
        Check.due("three of two", three.rings(), 3);
        three.die(0);
        Check.due("two, one being dead", three.rings(), 2);
        Check.due("b keeps his", three.exchange(1), 1);
        // a ring that comes about only when another is gone
        WardrobeRow later = Check.row(six + "likes a rb 9;likes b ra 9;likes c ra 9;likes c rd 1;likes d rb 9;likes d rc 1;"
            + "likes e rc 9;likes e rf 1;likes f rd 9;likes f re 1;");
        Check.due("three, one behind the other", later.rings(), 3);
        Check.due("f has e's", later.exchange(5), 4);
    }

    private static final String TWO = "house h;owner o;owner p;room a h o;room b h p;";

    private static void priceRounds() {
        Check.about("prices: how many ROUNDS till REST (that by which it is seen counted)");
        Check.due("without a TERRACE", new WardrobeRow().prices(), 1);
        Check.due("nobody likes any", Check.row(TWO).prices(), 1);
        Check.due("they like different ones", Check.row(TWO + "likes o a 9;likes p b 9;").prices(), 1);
        WardrobeRow one = Check.row(TWO + "likes o a 1;likes p a 1;");
        // ROUND 1: 1 less 0; ROUND 2: 1 less 1 is 0 or more; ROUND 3: none wants it
        Check.due("of 1", one.prices(), 3);
        Check.due("its PRICE", one.price(0), 2);
        Check.due("none wants it", one.wants(0) + one.wants(1), -2);
        WardrobeRow nine = Check.row(TWO + "likes o a 9;likes p a 8;");
        Check.due("9 against 8", nine.prices(), 10);
        Check.due("its PRICE is above 8", nine.price(0), 9);
        Check.due("o has it at 0", nine.wants(0), 0);
        Check.due("p wants none", nine.wants(1), -1);
    }

    private static void pricesLikings() {
        Check.about("wants that by which liking (more than 0) less PRICE is most, if it is 0 or more (of like ones the first)");
        WardrobeRow like = Check.row(TWO + "likes o b 5;likes o a 5;");
        like.prices();
        Check.due("the first", like.wants(0), 0);
        Check.due("none without liking", like.wants(1), -1);
        WardrobeRow other = Check.row(TWO + "likes o a 3;likes o b 3;likes p a 9;");
        Check.due("at PRICE 1 the other is more", other.prices(), 2);
        Check.due("o", other.wants(0), 1);
        Check.due("p", other.wants(1), 0);
        Check.due("a costs", other.price(0), 1);
        Check.due("b costs", other.price(1), 0);
        Check.about("PRICES of ROOMS that are not burnt; each who lives");
        other.burn(1);
        Check.due("b is burnt", other.prices(), 5);
        Check.due("a costs", other.price(0), 4);
        Check.due("a burnt one costs nothing", other.price(1), 0);
        other.die(1);
        Check.due("p is dead", other.prices(), 1);
        Check.due("o has a", other.wants(0), 0);
        Check.due("p wants none", other.wants(1), -1);
        Check.due("0 at first", other.price(0), 0);
        // three who want one raise it by 1 a ROUND, too
        WardrobeRow three = Check.row("house h;owner o;owner p;owner q;room a h o;likes o a 2;likes p a 2;likes q a 2;");
        Check.due("three", three.prices(), 4);
        Check.due("by 1", three.price(0), 3);
    }

    private static void pricesAtMost() {
        Check.about("99 ROUNDS at most");
        for (int rooms = 9; rooms <= 10; rooms++) {
            StringBuilder text = new StringBuilder("house hh;owner oo;owner pp;" + Check.lines("room", rooms, " hh oo"));
            for (int r = 0; r < rooms; r++) {
                text.append("likes oo ").append((char) ('a' + r)).append(" 9;likes pp ").append((char) ('a' + r)).append(" 9;");
            }
            WardrobeRow row = Check.row(text.toString());
            // each ROOM is raised ten times, one a ROUND; one ROUND more sees the REST
            Check.due(rooms + " ROOMS", row.prices(), rooms == 9 ? 91 : 99);
            Check.due("the first", row.price(0), 10);
            Check.due("the last", row.price(rooms - 1), rooms == 9 ? 10 : 9);
            Check.due("what is wanted at last", row.wants(1), rooms == 9 ? -1 : 8);
            Check.due("the last but one", row.price(rooms - 2), 10);
        }
    }

    private static void pricesOfTheLatest() {
        Check.about("price, wants: by the latest prices(); NONE: no such one, or ahead of any");
        WardrobeRow row = Check.row(TWO + "likes o a 9;likes p a 8;");
        Check.due("ahead of any", row.price(0), -1);
        Check.due("ahead of any", row.wants(0), -1);
        row.prices();
        row.burn(0);
        row.die(0);
        Check.due("stays", row.price(0), 9);
        Check.due("stays", row.wants(0), 0);
        row.prices();
        Check.due("the latest", row.price(0), 0);
        Check.due("the latest", row.wants(0), -1);
        for (int i : new int[] {2, -1, 12, 32, FAR, LOW}) {
            Check.due("price(" + i + ")", row.price(i), -1);
            Check.due("wants(" + i + ")", row.wants(i), -1);
        }
    }

    private static int walked(WardrobeRow row, int... rooms) {
        Check.tape(row, rooms);
        int who = row.walked();
        Check.due("the tape is empty then", row.count(5), 0);
        return who;
    }

    private static void walked() {
        Check.about("WALKED: who can have gone so, by leave, doors, robes and fire as they are now (from the first one on)");
        WardrobeRow row = Check.row(TEXT + "leave p o;leave q o;leave p q;");
        Check.due("a b c d", walked(row, 0, 1, 2, 3), 0b001);
        Check.due("b c", walked(row, 1, 2), 0b101);
        Check.due("c b, from out or not", walked(row, 2, 1), 0b101);
        Check.due("there and back", walked(row, 1, 2, 1, 2, 1), 0b101);
        Check.due("no PASSAGE", walked(row, 0, 2), 0);
        Check.due("the same twice", walked(row, 0, 0), 0);
        Check.due("coming in by leave", walked(row, 0), 0b001);
        row.shut(0, 1);
        Check.due("a shut door", walked(row, 0, 1), 0);
        row.shut(0, 0);
        row.burn(2);
        Check.due("a burnt ROOM", walked(row, 1, 2), 0);
        Check.due("a burnt ROOM at first", walked(row, 2, 1), 0);
        row.die(1);
        Check.due("a free one, all who live", walked(row, 1), 0b101);
        Check.due("nothing is gone", row.now(5), 0);
    }

    private static void walkedLength() {
        Check.about("the tape (1 to 20 bytes); NONE: not as told");
        WardrobeRow row = row();
        Check.due("0 bytes", walked(row), -1);
        Check.due("1 byte", walked(row, 0), 1);
        int[] twenty = new int[20];
        int[] more = new int[21];
        row.let(1, 0, 1);
        for (int i = 0; i < 21; i++) {
            more[i] = i % 2;
            twenty[i % 20] = i % 2;
        }
        twenty[0] = 0;
        Check.due("20 bytes", walked(row, twenty), 1);
        Check.due("21 bytes", walked(row, more), -1);
        Check.due("no such ROOM", walked(row, 5), -1);
        Check.due("no such ROOM at last", walked(row, 0, 1, 5), -1);
        Check.due("a byte of 255", walked(row, 255), -1);
        Check.due("a byte of 128", walked(row, 0, 128), -1);
        WardrobeRow empty = new WardrobeRow();
        Check.due("without ROOMS", walked(empty, 0), -1);
        WardrobeRow all = Check.row("house h;owner oo;" + Check.lines("room", 12, " h oo").replace("room h ", "room z "));
        Check.due("the last ROOM", walked(all, 11), 1);
        Check.due("one more than that", walked(all, 12), -1);
    }

    private static int corridor(WardrobeRow row, int p, int... order) {
        Check.tape(row, order);
        int rooms = row.corridor(p);
        Check.due("the tape is empty then", row.count(5), 0);
        return rooms;
    }

    private static void corridor() {
        Check.about("CORRIDOR: what one would own if others died, one after another, in the order told");
        // a to b, b to c, c to b: the order tells whether c has all or they are free
        WardrobeRow row = Check.row(SIX + "room ra h a;room rb h b;room rc h c;room rd h d;heir a b;heir b c;heir c b;");
        Check.due("c by a, b", corridor(row, 2, 0, 1), 0b0111);
        Check.due("c by b, a", corridor(row, 2, 1, 0), 0b0111);
        Check.due("c by a alone", corridor(row, 2, 0), 0b0100);
        Check.due("b by c, a", corridor(row, 1, 2, 0), 0b0111);
        Check.due("d by all", corridor(row, 3, 0, 1, 2), 0b1000);
        WardrobeRow order = Check.row(SIX + "room ra h a;heir a b;heir c d;heir b c;");
        Check.due("d by a, b, c", corridor(order, 3, 0, 1, 2), 1);
        Check.due("d by c, b, a", corridor(order, 3, 2, 1, 0), 1);
        Check.due("c by b, d, a", corridor(order, 2, 1, 3, 0), 1);
        Check.due("all live", order.now(1), 0);
        Check.due("all stays", order.owner(0, 2), 1);
    }

    private static void corridorLength() {
        Check.about("the tape (1 to 6 bytes: OWNERS, unlike, not himself); NONE: not as told");
        WardrobeRow row = Check.row(SIX + "room r h a;heir a b;heir b c;heir c d;heir d e;heir e f;");
        Check.due("0 bytes", corridor(row, 5), -1);
        Check.due("1 byte", corridor(row, 1, 0), 1);
        Check.due("5 bytes", corridor(row, 5, 0, 1, 2, 3, 4), 1);
        Check.due("6 bytes are not unlike", corridor(row, 5, 0, 1, 2, 3, 4, 0), -1);
        Check.due("6 bytes, himself", corridor(row, 5, 0, 1, 2, 3, 4, 5), -1);
        Check.due("7 bytes", corridor(row, 5, 0, 1, 2, 3, 4, 0, 1), -1);
        Check.due("himself", corridor(row, 0, 0), -1);
        Check.due("himself at last", corridor(row, 0, 1, 0), -1);
        Check.due("alike", corridor(row, 0, 1, 1), -1);
        Check.due("no such one", corridor(row, 0, 6), -1);
        Check.due("no such one at last", corridor(row, 0, 1, 6), -1);
        Check.due("a byte of 255", corridor(row, 0, 255), -1);
        for (int p : new int[] {6, -1, 32, FAR, LOW}) {
            Check.due("corridor(" + p + ")", corridor(row, p, 0), -1);
        }
        WardrobeRow two = Check.row("house h;owner a;owner b;room r h a;heir a b;");
        Check.due("OWNERS that there are", corridor(two, 1, 0), 1);
        Check.due("2 is none of them", corridor(two, 1, 2), -1);
    }

    private static void heir() {
        Check.about("heir: Who would have the ROOMS of an OWNER if he died now; NONE: nobody, dead");
        WardrobeRow row = Check.row(SIX + "heir a b;heir b a;heir c d;heir d c;heir e c;");
        Check.due("a", row.heir(0), 1);
        Check.due("none told", row.heir(5), -1);
        row.die(1);
        Check.due("it comes round", row.heir(0), -1);
        Check.due("dead", row.heir(1), -1);
        row.die(3);
        Check.due("e by c", row.heir(4), 2);
        row.die(2);
        Check.due("e by a round of dead ones", row.heir(4), -1);
    }

    private static void guests() {
        Check.about("guests: who live, own no ROOM in a HOUSE, and are let into each that is owned there (all such, if none is)");
        WardrobeRow row = Check.row("house h;house i;owner o;owner p;owner q;room a h o;room b h p;leave o q;leave p q;"
            + "leave o p;leave p o;");
        Check.due("q alone", row.guests(0), 0b100);
        Check.due("a HOUSE without ROOMS: all", row.guests(1), 0b111);
        row.let(0, 2, 0);
        Check.due("let into p's alone", row.guests(0), 0);
        row.let(0, 2, 1);
        row.let(1, 2, 0);
        Check.due("let into o's alone", row.guests(0), 0);
        row.die(1);
        Check.due("that one is free now: it is not owned", row.guests(0), 0b100);
        row.die(0);
        Check.due("none is owned: all that live", row.guests(0), 0b100);
        row.die(2);
        Check.due("nobody lives", row.guests(0) + row.guests(1), 0);
    }

    private static void mixed() {
        Check.about("mixed: HOUSES that have ROOMS, but in which nobody owns all of them, as bits");
        Check.due("without a TERRACE", new WardrobeRow().mixed(), 0);
        Check.due("without ROOMS and OWNERS", Check.row("house h;house i;").mixed(), 0);
        WardrobeRow first = Check.row("house h;house i;owner o;owner p;room a h o;room b i p;");
        Check.due("each of one", first.mixed(), 0);
        first.die(0);
        Check.due("the first HOUSE is nobody's", first.mixed(), 0b01);
        WardrobeRow row = Check.row("house h;house i;house j;owner o;owner p;room a i o;room b i o;room c j o;");
        Check.due("without ROOMS, of one, of one", row.mixed(), 0);
        row.sell(0, 0, 1);
        Check.due("of two", row.mixed(), 0b010);
        row.die(0);
        Check.due("of one and nobody; of nobody", row.mixed(), 0b110);
        row.die(1);
        Check.due("of nobody", row.mixed(), 0b110);
    }

    private static void drawn() {
        Check.about("drawn: n (1 to 60): the MINUTE then; NONE: not as told, no ROOMS, it would be above 999");
        WardrobeRow row = row();
        for (int n : new int[] {0, 61, -1, FAR, LOW}) {
            String before = Check.seen(row);
            Check.due("drawn(" + n + ", 1)", row.drawn(n, 1), -1);
            Check.dueText("all stays", Check.seen(row), before);
            Check.due("nothing to undo", row.undo(), -1);
        }
        Check.due("drawn(1, 1)", row.drawn(1, 1), 1);
        Check.due("drawn(60, 1)", row.drawn(60, 1), 61);
        WardrobeRow late = row();
        for (int i = 0; i < 16; i++) {
            late.minutes(60);
        }
        Check.due("1000", late.drawn(40, 1), -1);
        Check.due("999", late.drawn(39, 1), 999);
        Check.due("1000", late.drawn(1, 1), -1);
        Check.due("no TERRACE", new WardrobeRow().drawn(1, 1), -1);
        Check.due("no ROOMS", Check.row("house h;owner o;").drawn(1, 1), -1);
        Check.due("nobody lives", lonely().drawn(60, 5), 60);
        Check.due("one ROOM", Check.row("house h;owner o;room r h o;").drawn(1, 1), 1);
    }

    private static WardrobeRow lonely() {
        WardrobeRow row = row();
        row.die(0);
        row.die(1);
        row.die(2);
        return row;
    }

    private static BigInteger x;

    /** The draw by numbers that do not wrap, brought back into an int's room by hand. */
    private static int draw(int n) {
        BigInteger room = BigInteger.ONE.shiftLeft(32);
        x = x.multiply(BigInteger.valueOf(1103515245)).add(BigInteger.valueOf(12345)).mod(room);
        return x.shiftRight(8).mod(BigInteger.valueOf(n)).intValue();
    }

    private static void byHand(WardrobeRow row, int n, int seed) {
        x = BigInteger.valueOf(seed);
        for (int i = 0; i < n; i++) {
            for (int p = 0; p < row.count(1); p++) {
                int deed = row.owner(p, 1) == 0 ? 3 : draw(4);
                if (deed == 0) {
                    row.go(p, draw(row.count(2)));
                } else if (deed == 1) {
                    row.let(p, draw(row.count(1)), 1);
                } else if (deed == 2) {
                    int r = draw(row.count(2));
                    row.sell(p, r, draw(row.count(1)));
                }
            }
            if (draw(60) == 0) {
                row.burn(draw(row.count(2)));
            }
            row.minutes(1);
        }
    }

    private static void drawnWraps() {
        Check.about("x becomes x * 1103515245 + 12345 (an int, wrapping), the draw is (x >>> 8) % n");
        int[] seeds = {0, 1, -1, FAR, LOW, FAR - 1, LOW + 1, 12345, -12345, 1103515245, 1 << 30, 3 << 30};
        for (int seed : seeds) {
            for (int n : new int[] {1, 2, 20, 60}) {
                WardrobeRow row = row();
                WardrobeRow hand = row();
                row.drawn(n, seed);
                byHand(hand, n, seed);
                Check.dueText("drawn(" + n + ", " + seed + ")", Check.seen(row), Check.seen(hand));
            }
        }
    }

    private static int burntBy(int r, int seed) {
        WardrobeRow row = row();
        row.drawn(20, seed);
        return row.room(r, 2);
    }

    private static void odds() {
        Check.about("odds: Of n (1 to 40) seeds x, x and 1, ..; NONE: no such ones, the MINUTE would be above 999");
        WardrobeRow row = row();
        for (int n : new int[] {0, 41, -1, FAR, LOW}) {
            Check.due("odds(0, " + n + ", 1)", row.odds(0, n, 1), -1);
        }
        for (int first : new int[] {1, FAR - 5, LOW, -20}) {
            int burnt = 0;
            for (int n = 1; n <= 40; n++) {
                burnt += burntBy(3, first + n - 1);
                Check.due("odds(3, " + n + ", " + first + ")", row.odds(3, n, first), burnt);
            }
        }
        row.burn(3);
        Check.due("burnt already", row.odds(3, 40, 7), 40);
        row.undo();
        for (int i = 0; i < 16; i++) {
            row.minutes(60);
        }
        row.minutes(19);
        Check.due("999", row.odds(0, 1, 1) >= 0, true);
        row.minutes(1);
        Check.due("1000", row.odds(0, 1, 1), -1);
        Check.due("nothing went by", row.now(0), 980);
    }

    private static void noSuchOnes() {
        Check.about("NONE: no such ones");
        WardrobeRow row = row();
        row.burn(0);
        row.prices();
        for (int p : NO_SUCH_OWNERS) {
            Check.due("way", row.way(p, 0), -1);
            Check.due("barred", row.barred(p), -1);
            Check.due("asks", row.asks(p, 0), -1);
            Check.due("through", row.through(p, 0), -1);
            Check.due("exchange", row.exchange(p), -1);
            Check.due("wants", row.wants(p), -1);
            Check.due("heir", row.heir(p), -1);
        }
        for (int r : NO_SUCH_ROOMS) {
            Check.due("way", row.way(1, r), -1);
            Check.due("asks", row.asks(1, r), -1);
            Check.due("through", row.through(1, r), -1);
            Check.due("fire", row.fire(r), -1);
            Check.due("cut", row.cut(r), -1);
            Check.due("price", row.price(r), -1);
            Check.due("odds", row.odds(r, 1, 1), -1);
        }
        for (int h : new int[] {1, -1, 6, 32, FAR, LOW}) {
            Check.due("guests", row.guests(h), -1);
        }
    }
}
