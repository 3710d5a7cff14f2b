import java.util.function.ToIntFunction;

/**
 * The edges of deeds: why each is not done, and of more reasons the least; what dying, burning and MINUTES do at their
 * limits; what can be undone. Each method is about the sentence of the document that it names.
 */
public final class DeedEdgeTest {
    /** Owners o, p, q; rooms 0 a, 3 d of o, 1 b, 4 e of p, 2 c of q; passages 0 a-b, 1 b-c (a robe), 2 a-d, 3 d-e. */
    private static final String TEXT = "house h;owner o;owner p;owner q;room a h o;room b h p;room c h q;room d h o;"
        + "room e h p;door a b;robe b c;door a d;door d e;at o a;at p b;";
    private static final int FAR = Integer.MAX_VALUE;
    private static final int LOW = Integer.MIN_VALUE;

    public static void main(String[] args) {
        goingLeast();
        goingFreely();
        goingNoSuchOnes();
        leaving();
        sellingLeast();
        sellingNoSuchOnes();
        lettingLeast();
        barringStays();
        lettingNoSuchOnes();
        willingLeast();
        willingNoSuchOnes();
        dyingOnce();
        dyingToHeirs();
        dyingRound();
        shutting();
        burning();
        burningPeople();
        minuteSteps();
        minutesByNumbers();
        minutesLimits();
        undoneAtMost();
        undoneBehindRefused();
        undoneRound();
        undoneWhat();
        Check.close();
    }

    /** The call answers so, changes nothing, and cannot be undone. */
    private static void refused(String what, WardrobeRow row, ToIntFunction<WardrobeRow> call, int want) {
        row.shut(3, 1 - row.passage(3, 3));
        String before = Check.seen(row);
        row.shut(3, 1 - row.passage(3, 3));
        String then = Check.seen(row);
        Check.due(what, call.applyAsInt(row), want);
        Check.dueText(what + " changes nothing", Check.seen(row), then);
        row.undo();
        Check.dueText(what + " cannot be undone", Check.seen(row), before);
    }

    private static void done(String what, WardrobeRow row, ToIntFunction<WardrobeRow> call) {
        String before = Check.seen(row);
        Check.due(what, call.applyAsInt(row), 0);
        Check.due(what + " changes something", Check.seen(row).equals(before), false);
        Check.due(what + " can be undone", row.undo() >= 0, true);
        Check.dueText(what + " is undone", Check.seen(row), before);
    }

    private static WardrobeRow row() {
        return Check.row(TEXT);
    }

    private static boolean in(int set, int i) {
        return (set >> i & 1) == 1;
    }

    private static void goingLeast() {
        Check.about("To GO to a ROOM: why not, the least: 1 dead; 2 burnt; 3 no open PASSAGE; 4 no leave");
        for (int set = 0; set < 16; set++) {
            WardrobeRow row = row();
            if (!in(set, 3)) {
                row.let(0, 1, 1);
            }
            if (in(set, 2)) {
                row.shut(0, 1);
            }
            row.leave(0);
            if (in(set, 1)) {
                row.burn(0);
            }
            if (in(set, 0)) {
                row.die(1);
            }
            int why = in(set, 0) ? 1 : in(set, 1) ? 2 : in(set, 2) ? 3 : in(set, 3) ? 4 : 0;
            if (why == 0) {
                done("go(1, 0)", row, one -> one.go(1, 0));
            } else {
                refused("go(1, 0) by " + set, row, one -> one.go(1, 0), why);
            }
        }
        refused("to where he is", row(), one -> one.go(0, 0), 3);
        refused("through two doors at once", row(), one -> one.go(0, 4), 3);
    }

    private static void goingFreely() {
        Check.about("a free ROOM, his own: always; one who is out comes in to any ROOM by leave");
        WardrobeRow row = row();
        done("his own", row, one -> one.go(0, 3));
        done("out to his own", row, one -> one.go(2, 2));
        refused("out to another one's", row, one -> one.go(2, 1), 4);
        row.let(1, 2, 1);
        done("out, by leave", row, one -> one.go(2, 1));
        done("out, by leave, to any of his", row, one -> one.go(2, 4));
        refused("not of another one", row, one -> one.go(2, 0), 4);
        row.die(0);
        done("a free one", row, one -> one.go(2, 0));
        row.go(2, 0);
        Check.due("there", row.owner(2, 0), 0);
        done("a free one next to it", row, one -> one.go(2, 3));
        row.burn(3);
        refused("a free one that is burnt", row, one -> one.go(2, 3), 2);
        Check.about("goings so far");
        Check.due("his", row.owner(2, 5), 1);
        row.go(2, 1);
        row.go(1, 2);
        Check.due("his", row.owner(2, 5), 2);
        Check.due("all", row.now(5), 2);
        row.die(2);
        Check.due("of a dead one, too", row.now(5), 2);
        WardrobeRow all = row();
        all.go(0, 3);
        all.go(1, 2);
        all.go(2, 2);
        Check.due("o went, p did not, q came in", all.owner(0, 5) * 100 + all.owner(1, 5) * 10 + all.owner(2, 5), 101);
        Check.due("all", all.now(5), 2);
    }

    private static void goingNoSuchOnes() {
        Check.about("go: NONE: no such ones");
        int[][] wrong = {{3, 0}, {-1, 0}, {0, 5}, {0, -1}, {FAR, 0}, {LOW, 0}, {0, FAR}, {0, LOW}, {32, 0}, {0, 32}};
        for (int[] two : wrong) {
            refused("go(" + two[0] + ", " + two[1] + ")", row(), one -> one.go(two[0], two[1]), -1);
        }
    }

    private static void leaving() {
        Check.about("leave: false: no such one, dead, out already");
        WardrobeRow row = row();
        done("leave(0)", row, one -> one.leave(0) ? 0 : 1);
        refused("out already", row, one -> one.leave(2) ? 0 : 1, 1);
        row.leave(0);
        refused("gone out", row, one -> one.leave(0) ? 0 : 1, 1);
        row.die(1);
        refused("dead", row, one -> one.leave(1) ? 0 : 1, 1);
        for (int p : new int[] {3, -1, FAR, LOW, 32}) {
            refused("leave(" + p + ")", row, one -> one.leave(p) ? 0 : 1, 1);
        }
        WardrobeRow shut = row();
        shut.shut(0, 1);
        shut.shut(2, 1);
        done("behind shut doors, too", shut, one -> one.leave(0) ? 0 : 1);
    }

    private static void sellingLeast() {
        Check.about("To SELL a ROOM to another one: 1 one of both is dead; 2 it is not his; 3 it is burnt");
        for (int set = 0; set < 16; set++) {
            WardrobeRow row = row();
            row.leave(0);
            int r = in(set, 2) ? 2 : 0;
            if (in(set, 3)) {
                row.burn(r);
            }
            if (in(set, 0)) {
                row.die(0);
            }
            if (in(set, 1)) {
                row.die(1);
            }
            int why = in(set, 0) || in(set, 1) ? 1 : in(set, 2) ? 2 : in(set, 3) ? 3 : 0;
            if (why == 0) {
                done("sell(0, 0, 1)", row, one -> one.sell(0, r, 1));
            } else {
                refused("sell(0, " + r + ", 1) by " + set, row, one -> one.sell(0, r, 1), why);
            }
        }
        WardrobeRow row = row();
        row.sell(0, 0, 1);
        Check.due("his now", row.room(0, 1), 1);
        Check.due("sales", row.now(4), 1);
        refused("not his any more", row, one -> one.sell(0, 0, 2), 2);
        done("his to sell back", row, one -> one.sell(1, 0, 0));
        row.die(1);
        refused("a free one is nobody's", row, one -> one.sell(0, 0, 2), 2);
        Check.due("sales stay", row.now(4), 1);
    }

    private static void sellingNoSuchOnes() {
        Check.about("sell: NONE: no such ones, alike");
        int[][] wrong = {{3, 0, 1}, {-1, 0, 1}, {0, 5, 1}, {0, -1, 1}, {0, 0, 3}, {0, 0, -1}, {0, 0, 0}, {1, 0, 1},
            {FAR, LOW, FAR}, {0, 0, FAR}, {0, LOW, 1}, {3, 0, 3}};
        for (int[] three : wrong) {
            refused("sell(" + three[0] + ", " + three[1] + ", " + three[2] + ")", row(),
                one -> one.sell(three[0], three[1], three[2]), -1);
        }
        WardrobeRow row = row();
        row.die(0);
        refused("alike, and dead", row, one -> one.sell(0, 0, 0), -1);
    }

    private static void lettingLeast() {
        Check.about("To LET: 1 one is dead; 2 it is so already; to BAR: likewise");
        for (int on = 0; on <= 1; on++) {
            for (int set = 0; set < 8; set++) {
                WardrobeRow row = row();
                if (in(set, 2) == (on == 1)) {
                    row.let(0, 1, 1);
                }
                if (in(set, 0)) {
                    row.die(0);
                }
                if (in(set, 1)) {
                    row.die(1);
                }
                int why = in(set, 0) || in(set, 1) ? 1 : in(set, 2) ? 2 : 0;
                int now = on;
                if (why == 0) {
                    done("let(0, 1, " + on + ")", row, one -> one.let(0, 1, now));
                } else {
                    refused("let(0, 1, " + on + ") by " + set, row, one -> one.let(0, 1, now), why);
                }
            }
        }
        WardrobeRow row = row();
        row.let(0, 1, 1);
        Check.due("the other way round it is not so", row.let(1, 0, 0), 2);
        Check.due("the other way round it can be so", row.let(1, 0, 1), 0);
    }

    private static void barringStays() {
        Check.about("to BAR (leave is taken back; who is in stays)");
        WardrobeRow row = row();
        row.let(0, 1, 1);
        row.go(1, 0);
        Check.due("let(0, 1, 0)", row.let(0, 1, 0), 0);
        Check.due("he stays", row.owner(1, 0), 0);
        Check.due("he lives", row.owner(1, 1), 1);
        Check.due("he does not go on in it", row.go(1, 3), 4);
        Check.due("he goes home", row.go(1, 1), 0);
        Check.due("and not back", row.go(1, 0), 4);
    }

    private static void lettingNoSuchOnes() {
        Check.about("let: on 1, 0; NONE: no such ones, alike");
        int[][] wrong = {{3, 0, 1}, {0, 3, 1}, {-1, 0, 1}, {0, -1, 0}, {0, 0, 1}, {0, 0, 0}, {0, 1, 2}, {0, 1, -1},
            {FAR, 0, 1}, {0, LOW, 0}, {0, 1, FAR}, {0, 1, LOW}, {3, 3, 1}};
        for (int[] three : wrong) {
            refused("let(" + three[0] + ", " + three[1] + ", " + three[2] + ")", row(),
                one -> one.let(three[0], three[1], three[2]), -1);
        }
    }

    private static void willingLeast() {
        Check.about("To WILL: 1 one is dead; 2 it is so already (one alone is heir: instead)");
        for (int set = 0; set < 8; set++) {
            WardrobeRow row = row();
            row.will(0, in(set, 2) ? 1 : 2);
            if (in(set, 0)) {
                row.die(0);
            }
            if (in(set, 1)) {
                row.die(1);
            }
            int why = in(set, 0) || in(set, 1) ? 1 : in(set, 2) ? 2 : 0;
            if (why == 0) {
                done("will(0, 1)", row, one -> one.will(0, 1));
            } else {
                refused("will(0, 1) by " + set, row, one -> one.will(0, 1), why);
            }
        }
        WardrobeRow row = row();
        row.will(0, 1);
        row.will(0, 2);
        Check.due("the latter alone", row.owner(0, 4), 2);
        Check.due("the former is none any more", row.will(0, 1), 0);
        row.die(1);
        Check.due("a dead heir stays named", row.owner(0, 4), 1);
    }

    private static void willingNoSuchOnes() {
        Check.about("will: NONE: no such ones, alike");
        int[][] wrong = {{3, 0}, {0, 3}, {-1, 0}, {0, -1}, {0, 0}, {FAR, 0}, {0, LOW}, {3, 3}};
        for (int[] two : wrong) {
            refused("will(" + two[0] + ", " + two[1] + ")", row(), one -> one.will(two[0], two[1]), -1);
        }
    }

    private static void dyingOnce() {
        Check.about("To DIE: 1 he is dead; he is in no ROOM then; die: NONE: no such one");
        WardrobeRow row = row();
        done("die(0)", row, one -> one.die(0));
        row.die(0);
        refused("dead", row, one -> one.die(0), 1);
        Check.due("in no ROOM", row.owner(0, 0), -1);
        Check.due("nobody there", row.room(0, 3), 0);
        for (int p : new int[] {3, -1, FAR, LOW, 32}) {
            refused("die(" + p + ")", row, one -> one.die(p), -1);
        }
    }

    private static final String SIX = "house h;owner a;owner b;owner c;owner d;owner e;owner f;room r h a;room s h a;"
        + "room t h f;";

    private static void dyingToHeirs() {
        Check.about("his ROOMS go to his heir, if that one lives, else to that one's heir, and so on");
        WardrobeRow row = Check.row(SIX + "heir a b;heir b c;heir c d;heir d e;heir e f;");
        row.burn(1);
        row.die(0);
        Check.due("to his heir, the burnt one too", row.owner(1, 2), 0b011);
        row = Check.row(SIX + "heir a b;heir b c;heir c d;heir d e;heir e f;");
        for (int p = 1; p <= 4; p++) {
            row.die(p);
        }
        Check.due("past four dead ones", row.heir(0), 5);
        row.die(0);
        Check.due("to the last", row.owner(5, 2), 0b111);
        Check.due("none is free", row.now(3), 0);
        Check.about("to nobody (free), where there is none");
        row.die(5);
        Check.due("the last has no heir", row.now(3), 0b111);
        row = Check.row(SIX + "heir a b;heir b c;");
        row.die(1);
        row.die(2);
        row.die(0);
        Check.due("the last of the row is dead and has none", row.now(3), 0b011);
        Check.due("the other keeps his", row.owner(5, 2), 0b100);
    }

    private static void dyingRound() {
        Check.about("to nobody (free), where it comes round");
        WardrobeRow row = Check.row(SIX + "heir a b;heir b a;");
        row.die(1);
        row.die(0);
        Check.due("a, b, a", row.now(3), 0b011);
        row = Check.row(SIX + "heir a b;heir b c;heir c b;");
        row.die(1);
        row.die(2);
        row.die(0);
        Check.due("a, b, c, b", row.now(3), 0b011);
        row = Check.row(SIX + "heir a b;heir b c;heir c d;heir d e;heir e f;heir f a;");
        for (int p = 1; p <= 4; p++) {
            row.die(p);
        }
        row.die(5);
        Check.due("f's goes round to a", row.owner(0, 2), 0b111);
        row.die(0);
        Check.due("all of six", row.now(3), 0b111);
        row = Check.row(SIX + "heir a b;heir b c;heir c d;heir d e;heir e f;heir f b;");
        for (int p = 1; p <= 5; p++) {
            row.die(p);
        }
        row.die(0);
        Check.due("a round of five dead ones", row.now(3), 0b111);
    }

    private static void shutting() {
        Check.about("To SHUT a door: 1 it is a robe; 2 it is so already; to OPEN: likewise");
        WardrobeRow row = row();
        refused("a robe shut", row, one -> one.shut(1, 1), 1);
        refused("a robe opened, being open", row, one -> one.shut(1, 0), 1);
        refused("open already", row, one -> one.shut(0, 0), 2);
        done("shut(0, 1)", row, one -> one.shut(0, 1));
        row.shut(0, 1);
        refused("shut already", row, one -> one.shut(0, 1), 2);
        done("shut(0, 0)", row, one -> one.shut(0, 0));
        Check.due("the others are open", row.passage(1, 3) + row.passage(2, 3) + row.passage(3, 3), 0);
        Check.about("shut: on 1, 0; NONE: no such ones");
        int[][] wrong = {{4, 1}, {-1, 1}, {0, 2}, {0, -1}, {FAR, 1}, {LOW, 0}, {0, FAR}, {20, 1}, {32, 1}};
        for (int[] two : wrong) {
            refused("shut(" + two[0] + ", " + two[1] + ")", row(), one -> one.shut(two[0], two[1]), -1);
        }
        row.burn(0);
        done("between burnt ones, too", row, one -> one.shut(0, 0));
    }

    private static void burning() {
        Check.about("To BURN a ROOM: 1 it is burnt; burn: NONE: no such one");
        WardrobeRow row = row();
        done("burn(0)", row, one -> one.burn(0));
        row.shut(0, 1);
        row.shut(2, 1);
        row.burn(0);
        refused("burnt", row, one -> one.burn(0), 1);
        for (int r : new int[] {5, -1, FAR, LOW, 12, 32}) {
            refused("burn(" + r + ")", row, one -> one.burn(r), -1);
        }
        Check.due("it keeps its owner's heir: none", row.room(0, 1), -1);
        WardrobeRow empty = row();
        empty.leave(0);
        empty.burn(0);
        Check.due("its owner keeps it", empty.room(0, 1), 0);
        Check.due("nobody died", empty.now(1), 0);
    }

    private static void burningPeople() {
        Check.about("Who is in a ROOM when it comes to burn dies, by numbers");
        WardrobeRow row = Check.row(SIX + "at a t;at b t;at f t;heir f a;heir a b;heir b f;");
        row.burn(2);
        Check.due("all three", row.now(1), 0b100011);
        // a's go to b, b's to f, and f's come round
        Check.due("all are free", row.now(3), 0b111);
        row = Check.row(SIX + "at a t;at f t;heir f a;");
        row.burn(2);
        Check.due("f comes behind a, who is dead then", row.now(3), 0b111);
        row = Check.row(SIX + "at a t;at f t;heir a f;heir f b;");
        row.burn(2);
        Check.due("a to f, f to b", row.owner(1, 2), 0b111);
    }

    private static void minuteSteps() {
        Check.about("from each ROOM that was burnt ahead of it fire goes through open doors and all robes to others");
        StringBuilder text = new StringBuilder("house hh;owner oo;" + Check.lines("room", 12, " hh oo"));
        for (char r = 'l'; r > 'a'; r--) {
            text.append(r % 2 == 0 ? "robe " : "door ").append(r).append(' ').append((char) (r - 1)).append(';');
        }
        // told from the last to the first, so that going through them in order would burn all at once
        for (int from = 0; from <= 11; from += 11) {
            WardrobeRow row = Check.row(text.toString());
            row.burn(from);
            for (int n = 1; n <= 11; n++) {
                Check.due("minutes(1)", row.minutes(1), n);
                int due = from == 0 ? (1 << n + 1) - 1 : 0b111111111111 & ~((1 << 11 - n) - 1);
                Check.due("burnt then", row.now(2), due);
            }
            Check.due("one more", row.minutes(1), 12);
            Check.due("all", row.now(2), 0b111111111111);
        }
        WardrobeRow row = row();
        row.leave(0);
        row.burn(0);
        row.shut(2, 1);
        row.minutes(60);
        Check.due("a, b by the door, c by the robe; not d", row.now(2), 0b00111);
        row.shut(2, 0);
        row.minutes(1);
        Check.due("d by the opened door", row.now(2), 0b01111);
        row.minutes(1);
        Check.due("e", row.now(2), 0b11111);
        WardrobeRow none = row();
        none.minutes(60);
        Check.due("no fire without one", none.now(2), 0);
    }

    private static void minutesByNumbers() {
        Check.about("(these burn by their numbers)");
        // fire comes from c to a and b in one MINUTE; whoever is in a dies first
        String head = "house h;owner o;owner p;owner q;room a h o;room b h p;room c h q;door c b;door c a;heir o p;";
        WardrobeRow row = Check.row(head + "at o a;at p b;heir p o;");
        row.burn(2);
        row.minutes(1);
        Check.due("o in a ahead of p in b: his go to p, then to nobody", row.now(3), 0b011);
        row = Check.row(head + "at p a;at o b;heir p q;");
        row.burn(2);
        row.minutes(1);
        Check.due("p in a ahead of o in b: his go to q, then o's too", row.owner(2, 2), 0b111);
        row = Check.row(head + "at p a;at o b;heir p o;");
        row.burn(2);
        row.minutes(1);
        Check.due("p's go to o, o's come round", row.now(3), 0b011);
    }

    private static void minutesLimits() {
        Check.about("minutes: n (1 to 60): the MINUTE then; NONE: not as told, it would be above 999");
        for (int n : new int[] {0, 61, -1, -60, FAR, LOW, 1000}) {
            refused("minutes(" + n + ")", row(), one -> one.minutes(n), -1);
        }
        WardrobeRow row = row();
        Check.due("minutes(1)", row.minutes(1), 1);
        Check.due("minutes(60)", row.minutes(60), 61);
        for (int i = 0; i < 15; i++) {
            row.minutes(60);
        }
        Check.due("now(0)", row.now(0), 961);
        row.burn(4);
        String before = Check.seen(row);
        Check.due("1000", row.minutes(39), -1);
        Check.due("1021", row.minutes(60), -1);
        Check.dueText("nothing went by", Check.seen(row), before);
        Check.due("999", row.minutes(38), 999);
        Check.due("1000", row.minutes(1), -1);
        Check.due("it is undone", row.undo() >= 0, true);
        Check.dueText("as ahead of it", Check.seen(row), before);
        WardrobeRow empty = new WardrobeRow();
        Check.due("without a TERRACE", empty.minutes(60), 60);
    }

    private static void undoneAtMost() {
        Check.about("how many more can be (8 at most are kept); NONE: none is");
        WardrobeRow row = new WardrobeRow();
        Check.due("of a new object", row.undo(), -1);
        for (int many = 1; many <= 12; many++) {
            row.minutes(1);
            Check.due("one is", row.undo(), Math.min(many, 8) - 1);
            row.minutes(1);
        }
        for (int i = 7; i >= 0; i--) {
            Check.due("one more", row.undo(), i);
            Check.due("the MINUTE", row.now(0), 12 - 8 + i);
        }
        Check.due("none", row.undo(), -1);
        Check.due("none again", row.undo(), -1);
        Check.due("what is not kept stays done", row.now(0), 4);
    }

    private static void undoneBehindRefused() {
        Check.about("that was done is undone (8 at most are kept)");
        String[] before = new String[10];
        WardrobeRow row = row();
        for (int i = 0; i < 10; i++) {
            before[i] = Check.seen(row);
            row.minutes(i + 1);
        }
        // what is not done takes no place among the eight that are kept
        row.go(0, 4);
        row.leave(2);
        row.sell(0, 1, 2);
        row.let(0, 1, 0);
        row.will(0, 0);
        row.die(7);
        row.shut(1, 1);
        row.burn(9);
        row.minutes(61);
        row.drawn(0, 1);
        Check.book(row, "!", 1);
        Check.book(row, "minute 1;", 0);
        for (int i = 9; i >= 2; i--) {
            Check.due("undo()", row.undo(), i - 2);
            Check.dueText("as ahead of deed " + i, Check.seen(row), before[i]);
        }
        Check.due("the first two are not kept", row.undo(), -1);
        Check.dueText("they stay done", Check.seen(row), before[2]);
    }

    private static void undoneRound() {
        Check.about("The latest of all these that was done is undone");
        WardrobeRow row = new WardrobeRow();
        int kept = 0;
        int[] past = new int[512];
        int minute = 0;
        int depth = 0;
        // a row of deeds and undoings that goes round the rows that are kept many times
        for (int i = 1; i <= 400; i++) {
            if (i * i % 7 == 1 || i * i % 5 == 1) {
                int due = kept == 0 ? -1 : kept - 1;
                Check.due("undo " + i, row.undo(), due);
                if (kept > 0) {
                    kept--;
                    depth--;
                    minute = past[depth];
                }
            } else {
                past[depth] = minute;
                depth++;
                minute += 1 + i % 2;
                Check.due("minutes " + i, row.minutes(1 + i % 2), minute);
                kept = Math.min(8, kept + 1);
            }
            Check.due("the MINUTE " + i, row.now(0), minute);
        }
    }

    private static int asked(WardrobeRow row) {
        row.way(0, 3);
        row.asks(1, 0);
        row.barred(1);
        row.through(0, 3);
        row.cut(0);
        row.fire(0);
        row.spread(60);
        row.exchange(0);
        row.rings();
        row.prices();
        row.heir(0);
        row.guests(0);
        row.mixed();
        row.odds(0, 40, 1);
        Check.tape(row, 1);
        row.corridor(0);
        Check.tape(row, 1);
        row.walked();
        return 0;
    }

    private static void undoneWhat() {
        Check.about("The latest of all these (from go() on) that was done, drawn(), a BOOK that was lived is undone");
        WardrobeRow row = row();
        done("drawn", row, one -> one.drawn(20, 9) - 20);
        done("a BOOK lived", row, one -> Check.book(one, "o goes d;minute 3;", 1) + 1);
        WardrobeRow behind = row();
        behind.minutes(1);
        behind.minutes(1);
        behind.undo();
        behind.shut(0, 1);
        Check.book(behind, "o goes d;minute 3;", 1);
        behind.go(0, 2);
        Check.due("a BOOK undone", behind.undo(), 2);
        Check.due("the door stays shut, the MINUTE is 1", behind.passage(0, 3) * 10 + behind.now(0), 11);
        Check.due("he is in a", behind.owner(0, 0), 0);
        done("a BOOK lived as far as it is not WRONG", row, one -> Check.book(one, "o goes d;o goes c;o dies;", 1) - 1);
        refused("a BOOK judged", row, one -> Check.book(one, "o goes d;", 0), -1);
        refused("a BOOK with a FAULT", row, one -> Check.book(one, "o goes d;x", 1), -11);
        refused("a BOOK of -1000", row, one -> Check.book(one, "o goes d;", 2), -1000);
        refused("what is asked", row, DeedEdgeTest::asked, 0);
        row.minutes(5);
        Check.sentence(row, "of p");
        Check.due("a SENTENCE is none of these", row.undo() >= 0, true);
        Check.due("it stays", row.said(-1), 2);
        row.minutes(5);
        row.image(1);
        Check.due("an image leaves what can be undone", row.undo() >= 0, true);
        row.minutes(5);
        row.restore(1);
        Check.due("nothing can be undone behind restore()", row.undo(), -1);
        row.minutes(5);
        row.restore(0);
        Check.due("a restore() that is false leaves it", row.undo(), 0);
        row.minutes(5);
        Check.terrace(row, "!");
        Check.due("a TERRACE with a FAULT leaves it", row.undo(), 0);
        row.minutes(5);
        Check.terrace(row, TEXT);
        Check.due("a new TERRACE has nothing to undo", row.undo(), -1);
        Check.due("MINUTE 0", row.now(0), 0);
    }
}
