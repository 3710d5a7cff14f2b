/**
 * The edges of what is kept and told: the tape, what is so, BOOKS judged and lived, what may be said, images. Each
 * method is about the sentence of the document that it names.
 */
public final class KeepEdgeTest {
    /** Owners o, p, q; rooms 0 a of o, 1 b of p, 2 c of q; passages 0 a-b, 1 b-c (a robe). */
    private static final String TEXT = "house h;house i;owner o;owner p;owner q;room a h o;room b h p;room c i q;"
        + "door a b;robe b c;at o a;leave p o;heir o p;likes o b 4;";
    private static final int FAR = Integer.MAX_VALUE;
    private static final int LOW = Integer.MIN_VALUE;

    public static void main(String[] args) {
        newObject();
        feedFull();
        feedBytes();
        end();
        tapeEmptyThen();
        newTerrace();
        roomNoSuchOnes();
        ownerNoSuchOnes();
        passageNoSuchOnes();
        nowNoSuchOnes();
        countNoSuchOnes();
        bookOtherLives();
        bookJudged();
        bookLived();
        bookWhys();
        bookMinuteAbove();
        bookedOfTheLatest();
        bookedDied();
        saidNone();
        saidKth();
        saidWhat();
        sentenceStays();
        imagePlaces();
        imageWhole();
        restoreLeaves();
        threwChangesNothing();
        manyCalls();
        Check.close();
    }

    private static void newObject() {
        Check.about("An empty TERRACE; an empty tape");
        WardrobeRow row = new WardrobeRow();
        for (int what = 0; what <= 5; what++) {
            Check.due("count(" + what + ")", row.count(what), 0);
            Check.due("now(" + what + ")", row.now(what), 0);
        }
        Check.due("walked() of an empty tape", row.walked(), -1);
        Check.dueThrown("room(0, 0)", row, 0, 0);
        Check.due("owner, passage", row.owner(0, 0) + row.passage(0, 0), -2);
        Check.due("guests(0)", row.guests(0), -1);
        Check.due("an image of it", row.image(0), true);
        Check.terrace(row, TEXT);
        Check.due("restored", row.restore(0), true);
        Check.due("empty again", row.count(0) + row.count(1) + row.count(2) + row.count(3), 0);
    }

    private static void feedFull() {
        Check.about("feed: NONE, and none come, if it would have more than 940");
        for (int over = 0; over <= 20; over++) {
            WardrobeRow row = new WardrobeRow();
            for (int i = 1; i <= 47; i++) {
                Check.due("feed", row.feed(i, i, i, i, i), 20 * i);
            }
            Check.due("940 are full", row.feed(1, 1, 1, 1, 1), -1);
            Check.due("none come", row.count(5), 940);
            row.end(940 - over);
            Check.due("feed at " + (940 - over), row.feed(1, 1, 1, 1, 1), over == 20 ? 940 : -1);
            Check.due("bytes then", row.count(5), over == 20 ? 940 : 940 - over);
        }
    }

    private static void feedBytes() {
        Check.about("Twenty bytes come behind the tape, of each number the highest first");
        WardrobeRow row = Check.row("house h;owner o;" + Check.lines("room", 4, " h o")
            + "door a b;door b c;door c d;robe d a;");
        row.feed(0x00010203, 0x00010203, 0x00010203, 0x00010203, 0x00010203);
        Check.due("0 1 2 3 and so on", row.walked(), 1);
        row.feed(0x00010203, 0x00010203, 0x00010203, 0x00010203, 0x00010201);
        Check.due("the last of the last", row.walked(), 1);
        row.feed(0x00010203, 0x00010203, 0x00010203, 0x00010203, 0x00010200);
        Check.due("no door from 2 to 0", row.walked(), 0);
        row.feed(0x03020100, 0x03020100, 0x03020100, 0x03020100, 0x03020100);
        Check.due("backwards", row.walked(), 1);
        row.feed(0x80000000, 0, 0, 0, 0);
        row.end(1);
        Check.due("a byte of 128 is no ROOM", row.walked(), -1);
        row.feed(0x000000ff, 0, 0, 0, 0);
        row.end(4);
        Check.due("a byte of 255 is none", row.walked(), -1);
        row.feed(0x00ffffff, -1, -1, -1, -1);
        row.end(1);
        row.feed(0x01020300, 0, 0, 0, 0);
        row.end(4);
        Check.due("behind what is there", row.walked(), 1);
    }

    private static void end() {
        Check.about("end: true; false, if it has not so many, or n is below 0");
        WardrobeRow row = new WardrobeRow();
        Check.due("end(0) of 0", row.end(0), true);
        Check.due("end(1) of 0", row.end(1), false);
        row.feed(0, 0, 0, 0, 0);
        for (int n : new int[] {21, -1, FAR, LOW}) {
            Check.due("end(" + n + ") of 20", row.end(n), false);
            Check.due("it stays", row.count(5), 20);
        }
        Check.due("end(20) of 20", row.end(20), true);
        Check.due("all", row.count(5), 20);
        Check.due("end(19)", row.end(19), true);
        Check.due("end(20) of 19", row.end(20), false);
        Check.due("its first", row.count(5), 19);
        Check.due("end(0)", row.end(0), true);
        Check.due("none", row.count(5), 0);
    }

    private static void tapeEmptyThen() {
        Check.about("The tape (empty then, here and below)");
        WardrobeRow row = Check.row(TEXT);
        Check.terrace(row, "!");
        Check.due("terrace() with a FAULT", row.count(5), 0);
        Check.sentence(row, "!");
        Check.due("sentence() with a FAULT", row.count(5), 0);
        Check.sentence(row, "burnt");
        Check.due("sentence()", row.count(5), 0);
        Check.book(row, "!", 0);
        Check.due("book() with a FAULT", row.count(5), 0);
        Check.book(row, "shuts 9;", 1);
        Check.due("book() with a WRONG LINE", row.count(5), 0);
        Check.tape(row, 9);
        row.walked();
        Check.due("walked() not as told", row.count(5), 0);
        Check.tape(row, 9);
        row.corridor(0);
        Check.due("corridor() not as told", row.count(5), 0);
        Check.tape(row, 1);
        row.corridor(9);
        Check.due("corridor() of no such one", row.count(5), 0);
        Check.tape(row, TEXT);
        row.terrace();
        Check.due("terrace()", row.count(5), 0);
        Check.tape(row, 1);
        row.go(0, 0);
        row.drawn(1, 1);
        row.said(-1);
        row.image(0);
        row.restore(0);
        row.undo();
        Check.due("other calls leave it", row.count(5), 1);
    }

    private static void newTerrace() {
        Check.about("A new TERRACE: MINUTE 0, nothing burnt, all doors open, all live, no SENTENCE");
        WardrobeRow row = Check.row(TEXT);
        String first = Check.seen(row);
        Check.sentence(row, "not burnt");
        row.shut(0, 1);
        row.burn(2);
        row.minutes(9);
        row.go(0, 1);
        row.sell(0, 0, 1);
        row.let(0, 2, 1);
        row.will(1, 2);
        row.die(2);
        Check.due("terrace()", Check.terrace(row, TEXT), 14);
        Check.dueText("as at first", Check.seen(row), first);
        Check.due("no SENTENCE", row.said(-1), -1);
        Check.due("nothing to undo", row.undo(), -1);
        // a door where there was a robe, none where there was leave, an heir, a liking, one in it
        Check.terrace(row, "house h;owner o;owner p;owner q;room a h o;room b h p;room c h q;door b c;door a b;");
        Check.due("no robes", row.count(4), 0);
        Check.due("each can be shut", row.shut(0, 1) + row.shut(1, 1), 0);
        Check.due("nobody is in", row.owner(0, 0) + row.room(0, 3), -1);
        Check.due("nobody lets", row.owner(1, 3), 0);
        Check.due("no heir", row.owner(0, 4), -1);
        row.prices();
        Check.due("no liking", row.wants(0), -1);
        row.die(0);
        row.burn(0);
        Check.due("an empty one", Check.terrace(row, ""), 0);
        Check.due("nobody is dead, nothing burnt or free", row.now(1) + row.now(2) + row.now(3), 0);
    }

    private static void roomNoSuchOnes() {
        Check.about("room: NoSuchElementException: no such ones");
        WardrobeRow row = Check.row(TEXT);
        for (int r : new int[] {3, -1, 12, 32, FAR, LOW}) {
            for (int what = -1; what <= 5; what++) {
                Check.dueThrown("room(" + r + ", " + what + ")", row, r, what);
            }
        }
        for (int what : new int[] {5, -1, FAR, LOW}) {
            Check.dueThrown("room(2, " + what + ")", row, 2, what);
        }
        Check.due("room(2, 4)", row.room(2, 4), 0b10);
        row.die(1);
        Check.due("NONE: free", row.room(1, 1), -1);
    }

    private static void ownerNoSuchOnes() {
        Check.about("owner: NONE: no such ones; the ROOM where he is (NONE: out, dead)");
        WardrobeRow row = Check.row(TEXT);
        for (int p : new int[] {3, -1, 6, 32, FAR, LOW}) {
            for (int what = -1; what <= 6; what++) {
                Check.due("owner(" + p + ", " + what + ")", row.owner(p, what), -1);
            }
        }
        for (int what : new int[] {6, -1, FAR, LOW}) {
            Check.due("owner(0, " + what + ")", row.owner(0, what), -1);
        }
        Check.due("out", row.owner(1, 0), -1);
        Check.due("owner(0, 5)", row.owner(0, 5), 0);
        row.die(0);
        Check.due("dead", row.owner(0, 0), -1);
        Check.due("not alive", row.owner(0, 1), 0);
        Check.due("his heir stays told", row.owner(0, 4), 1);
    }

    private static void passageNoSuchOnes() {
        Check.about("passage: NONE: no such ones");
        WardrobeRow row = Check.row(TEXT);
        for (int k : new int[] {2, -1, 20, 32, FAR, LOW}) {
            for (int what = -1; what <= 4; what++) {
                Check.due("passage(" + k + ", " + what + ")", row.passage(k, what), -1);
            }
        }
        for (int what : new int[] {4, -1, FAR, LOW}) {
            Check.due("passage(1, " + what + ")", row.passage(1, what), -1);
        }
        Check.due("passage(1, 3)", row.passage(1, 3), 0);
    }

    private static void nowNoSuchOnes() {
        Check.about("now: NONE for another what");
        WardrobeRow row = Check.row(TEXT);
        for (int what : new int[] {6, -1, 7, FAR, LOW}) {
            Check.due("now(" + what + ")", row.now(what), -1);
        }
        Check.due("now(5)", row.now(5), 0);
    }

    private static void countNoSuchOnes() {
        Check.about("count: NONE for another what");
        WardrobeRow row = Check.row(TEXT);
        for (int what : new int[] {6, -1, 7, FAR, LOW}) {
            Check.due("count(" + what + ")", row.count(what), -1);
        }
        Check.due("robes", row.count(4), 1);
        Check.due("PASSAGES", row.count(3), 2);
    }

    private static void bookOtherLives() {
        Check.about("book: -1000: another lives (the tape stays)");
        WardrobeRow row = Check.row(TEXT);
        Check.tape(row, "o goes b;");
        String before = Check.seen(row);
        for (int lives : new int[] {2, -1, FAR, LOW}) {
            Check.due("book(" + lives + ")", row.book(lives), -1000);
            Check.due("the tape stays", row.count(5), 9);
            Check.due("booked stays", row.booked(0), -1);
        }
        Check.dueText("all stays", Check.seen(row), before);
        Check.due("book(0)", row.book(0), -1);
        Check.due("the tape is empty", row.count(5), 0);
    }

    private static void bookJudged() {
        Check.about("it is judged, all staying as it is (lives 0)");
        WardrobeRow row = Check.row(TEXT);
        String before = Check.seen(row);
        String text = "o goes b;o sells a p;shuts 0;burns c;minute 2;q dies;p wills q;";
        // each LINE is judged by what the LINES ahead of it make: q is dead when p wills to him
        Check.due("book(0)", Check.book(row, text, 0), 6);
        Check.due("why", row.booked(0), 41);
        Check.due("the MINUTE then", row.booked(2), 2);
        Check.due("o died in b, behind c's fire, and q", row.booked(3), 0b101);
        Check.dueText("all stays", Check.seen(row), before);
        Check.due("nothing to undo", row.undo(), -1);
        Check.due("the LINE that is WRONG, from 0", Check.book(row, "q goes a;", 0), 0);
    }

    private static void bookLived() {
        Check.about("lived as far as it is not WRONG (1): the LINE that is WRONG; NONE: none");
        WardrobeRow row = Check.row(TEXT);
        Check.due("book(1)", Check.book(row, "o goes b;o goes c;minute 9;", 1), 1);
        Check.due("what is ahead of it is lived", row.owner(0, 0), 1);
        Check.due("what is behind it is not", row.now(0), 0);
        Check.due("why", row.booked(0), 4);
        Check.due("LINES that are not", row.booked(1), 1);
        Check.due("none", Check.book(row, "o goes a;minute 9;", 1), -1);
        Check.due("lived", row.now(0), 9);
        Check.due("an empty one", Check.book(row, "", 1), -1);
        Check.due("no LINES", row.booked(1), 0);
        Check.due("40 LINES", Check.book(row, "minute 1;".repeat(40), 1), -1);
        Check.due("all lived", row.now(0), 49);
        Check.due("39 and a WRONG one", Check.book(row, "minute 1;".repeat(39) + "opens 0;", 1), 39);
        Check.due("39 lived", row.now(0), 88);
    }

    private static void why(String text, int line, int why) {
        WardrobeRow row = Check.row(TEXT);
        Check.due("book(0) of '" + text + "'", Check.book(row, text, 0), line);
        Check.due("booked(0) of '" + text + "'", row.booked(0), why);
    }

    private static void bookWhys() {
        Check.about("booked: 0 why it was WRONG (0: it was not; as for going, 10 more as for selling, ..)");
        why("o goes b;", -1, 0);
        why("o dies;o goes b;", 1, 1);
        why("burns b;o goes b;", 1, 2);
        why("o goes c;", 0, 3);
        why("o goes a;", 0, 3);
        why("q goes a;", 0, 4);
        why("p dies;o sells a p;", 1, 11);
        why("o sells b p;", 0, 12);
        why("burns b;p sells b o;", 1, 13);
        why("q dies;q lets o;", 1, 21);
        why("p lets o;", 0, 22);
        why("q dies;o bars q;", 1, 31);
        why("o bars q;", 0, 32);
        why("q dies;q wills o;", 1, 41);
        why("o wills p;", 0, 42);
        why("q dies;q dies;", 1, 51);
        why("shuts 1;", 0, 61);
        why("shuts 0;shuts 0;", 1, 62);
        why("opens 1;", 0, 71);
        why("opens 0;", 0, 72);
        why("burns a;burns a;", 1, 81);
        Check.about("two alike, or a N that is no PASSAGE: 9 more than its sort");
        why("o sells a o;", 0, 19);
        why("o sells b o;", 0, 19);
        why("o lets o;", 0, 29);
        why("o bars o;", 0, 39);
        why("o wills o;", 0, 49);
        why("shuts 2;", 0, 69);
        why("shuts 19;", 0, 69);
        why("opens 2;", 0, 79);
        why("opens 19;", 0, 79);
    }

    private static void bookMinuteAbove() {
        Check.about("91 the MINUTE would be above 999");
        String late = "minute 60;".repeat(16) + "minute 39;";
        why(late, -1, 0);
        why(late + "minute 1;", 17, 91);
        why("minute 60;".repeat(16) + "minute 40;", 16, 91);
        WardrobeRow row = Check.row(TEXT);
        Check.book(row, late + "minute 1;", 1);
        Check.due("the MINUTE", row.now(0), 999);
        Check.due("the MINUTE then", row.booked(2), 999);
        Check.due("one undone", row.undo(), 0);
        Check.due("all of it", row.now(0), 0);
    }

    private static void bookedOfTheLatest() {
        Check.about("Of the latest book() that had no FAULT (and was not -1000); NONE: another what, or ahead of any");
        WardrobeRow row = Check.row(TEXT);
        for (int what = -1; what <= 4; what++) {
            Check.due("ahead of any: booked(" + what + ")", row.booked(what), -1);
        }
        Check.book(row, "!", 1);
        Check.book(row, "minute 1;", 7);
        Check.due("ahead of any without a FAULT", row.booked(1), -1);
        Check.book(row, "minute 5;o goes c;minute 1;", 0);
        Check.book(row, "minute 0;", 1);
        Check.book(row, "minute 9;", -1);
        Check.due("why", row.booked(0), 3);
        Check.due("LINES", row.booked(1), 1);
        Check.due("the MINUTE", row.booked(2), 5);
        Check.due("nobody died", row.booked(3), 0);
        for (int what : new int[] {4, -1, FAR, LOW}) {
            Check.due("booked(" + what + ")", row.booked(what), -1);
        }
        Check.book(row, "", 0);
        Check.due("the latest", row.booked(0) + row.booked(1) + row.booked(2) + row.booked(3), 0);
    }

    private static void bookedDied() {
        Check.about("3 who died in it, as bits");
        WardrobeRow row = Check.row(TEXT);
        row.die(1);
        Check.book(row, "q dies;", 0);
        Check.due("q, not p", row.booked(3), 0b100);
        Check.book(row, "burns a;", 0);
        Check.due("o, being in it", row.booked(3), 0b001);
        Check.book(row, "burns b;minute 1;", 0);
        Check.due("o, by the MINUTE", row.booked(3), 0b001);
        Check.book(row, "p dies;o dies;", 0);
        Check.due("WRONG at once: nobody", row.booked(3), 0);
    }

    private static void saidNone() {
        Check.about("said: NONE: there is no SENTENCE, none such");
        WardrobeRow row = Check.row(TEXT);
        for (int k = -2; k <= 3; k++) {
            Check.due("no SENTENCE: said(" + k + ")", row.said(k), -1);
        }
        Check.sentence(row, "burnt");
        Check.due("how many: 0", row.said(-1), 0);
        Check.due("no first", row.said(0), -1);
        WardrobeRow empty = new WardrobeRow();
        Check.due("without a TERRACE", Check.sentence(empty, "not burnt"), 2);
        Check.due("of no ROOMS", empty.said(-1), 0);
        Check.due("none such", empty.said(0), -1);
    }

    private static void saidKth() {
        Check.about("said: how many (k NONE), or the k-th");
        WardrobeRow row = Check.row("house hh;owner oo;" + Check.lines("room", 12, " hh oo"));
        Check.sentence(row, "not burnt");
        Check.due("all", row.said(-1), 12);
        for (int k = 0; k < 12; k++) {
            Check.due("said(" + k + ")", row.said(k), k);
        }
        for (int k : new int[] {12, -2, 32, FAR, LOW}) {
            Check.due("said(" + k + ")", row.said(k), -1);
        }
        Check.sentence(row, "number > 9");
        Check.due("the last two", row.said(-1), 2);
        Check.due("said(0)", row.said(0), 10);
        Check.due("said(1)", row.said(1), 11);
        Check.due("said(2)", row.said(2), -1);
        row.burn(10);
        Check.sentence(row, "burnt or number = 0");
        Check.due("of it as it is now", row.said(1), 10);
        row.undo();
        Check.due("of it as it is again", row.said(1), -1);
    }

    private static int rooms(WardrobeRow row, String text) {
        Check.sentence(row, text);
        int rooms = 0;
        for (int k = 0; k < row.said(-1); k++) {
            rooms |= 1 << row.said(k);
        }
        return rooms;
    }

    private static void saidWhat() {
        Check.about("COND: ALL { 'or' ALL }. ALL: ONE { 'and' ONE }. ONE: 'not' ONE | ( COND )");
        // four ROOMS for the four cases of two conditions: of o is 1100, in h is 1010
        WardrobeRow row = Check.row("house h;house i;owner o;owner p;room a i p;room b h p;room c i o;room d h o;");
        Check.due("of o", rooms(row, "of o"), 0b1100);
        Check.due("in h", rooms(row, "in h"), 0b1010);
        Check.due("and", rooms(row, "of o and in h"), 0b1000);
        Check.due("or", rooms(row, "of o or in h"), 0b1110);
        Check.due("not", rooms(row, "not of o"), 0b0011);
        Check.due("not is closer than and", rooms(row, "not of o and in h"), 0b0010);
        Check.due("not is closer than or", rooms(row, "not of o or in h"), 0b1011);
        Check.due("and is closer than or", rooms(row, "of o or in h and of p"), 0b1110);
        Check.due("and is closer than or", rooms(row, "of p and in h or of o"), 0b1110);
        Check.due("brackets", rooms(row, "(of o or in h) and of p"), 0b0010);
        Check.due("brackets", rooms(row, "not(of o or in h)"), 0b0001);
        Check.due("and and", rooms(row, "of o and in h and number = 3"), 0b1000);
        Check.due("or or", rooms(row, "number = 0 or number = 2 or number = 3"), 0b1101);
        Check.due("or and or", rooms(row, "number = 0 or of o and in h or number = 1"), 0b1011);
        Check.due("not not", rooms(row, "not not of o"), 0b1100);
        Check.about("'burnt' | 'free' (nobody owns it) | 'of' OWNER (owns it)");
        row.burn(3);
        row.die(1);
        Check.due("burnt", rooms(row, "burnt"), 0b1000);
        Check.due("free", rooms(row, "free"), 0b0011);
        Check.due("of a dead one", rooms(row, "of p"), 0);
        Check.due("of who lives", rooms(row, "of o"), 0b1100);
        Check.about("who are there; its PASSAGES, shut ones, too; the greatest liking of it; its number");
        WardrobeRow told = Check.row("house h;owner o;owner p;room a h o;room b h o;room c h o;room d h o;door a b;robe b c;"
            + "at o b;at p b;likes o a 9;likes p a 2;likes o b 2;likes p b 3;likes p c 1;");
        told.shut(0, 1);
        Check.due("nobody is there", rooms(told, "people = 0"), 0b1101);
        Check.due("two are there", rooms(told, "people = 2"), 0b0010);
        Check.due("more than one", rooms(told, "people > 1"), 0b0010);
        Check.due("less than one", rooms(told, "people < 1"), 0b1101);
        Check.due("no PASSAGES", rooms(told, "doors = 0"), 0b1000);
        Check.due("one", rooms(told, "doors = 1"), 0b0101);
        Check.due("two, one shut, one a robe", rooms(told, "doors = 2"), 0b0010);
        Check.due("liked by nobody", rooms(told, "worth = 0"), 0b1000);
        Check.due("less than 1", rooms(told, "worth < 1"), 0b1000);
        Check.due("the greatest, of the first OWNER", rooms(told, "worth = 9"), 0b0001);
        Check.due("the greatest, of the last", rooms(told, "worth = 3"), 0b0010);
        Check.due("1", rooms(told, "worth = 1"), 0b0100);
        Check.due("the first", rooms(told, "number < 1"), 0b0001);
        Check.due("the last", rooms(told, "number > 2"), 0b1000);
        Check.due("none", rooms(told, "number > 3 or number < 0 or worth > 9"), 0);
        told.leave(0);
        Check.due("one is there", rooms(told, "people = 1"), 0b0010);
        told.burn(1);
        Check.due("who was in it is dead", rooms(told, "people > 0"), 0);
    }

    private static void sentenceStays() {
        Check.about("sentence: -1 less the place of a FAULT: it stays");
        WardrobeRow row = Check.row(TEXT);
        Check.due("a FAULT ahead of any", Check.sentence(row, "of"), -3);
        Check.due("there is none", row.said(-1), -1);
        Check.sentence(row, "of p");
        Check.sentence(row, "not of p or");
        Check.due("it stays", row.said(0), 1);
        Check.due("it alone", row.said(-1), 1);
        Check.sentence(row, "in i");
        Check.due("another instead", row.said(0), 2);
    }

    private static void imagePlaces() {
        Check.about("image: place k (0, 1); restore: false: no such one, or nothing is kept there");
        WardrobeRow row = Check.row(TEXT);
        for (int k : new int[] {2, -1, 32, FAR, LOW}) {
            Check.due("image(" + k + ")", row.image(k), false);
            Check.due("restore(" + k + ")", row.restore(k), false);
        }
        Check.due("nothing in 0", row.restore(0), false);
        Check.due("nothing in 1", row.restore(1), false);
        Check.due("image(0)", row.image(0), true);
        Check.due("nothing in 1", row.restore(1), false);
        for (int k : new int[] {2, -1, 32, -32, 64, FAR, LOW}) {
            Check.due("image(" + k + ")", row.image(k), false);
            Check.due("restore(" + k + ")", row.restore(k), false);
        }
        row.minutes(1);
        Check.due("image(1)", row.image(1), true);
        row.minutes(1);
        Check.due("restore(0)", row.restore(0), true);
        Check.due("0", row.now(0), 0);
        Check.due("restore(1)", row.restore(1), true);
        Check.due("1", row.now(0), 1);
        Check.due("restore(0) again", row.restore(0), true);
        Check.due("0", row.now(0), 0);
        row.minutes(9);
        row.image(0);
        row.minutes(1);
        row.restore(0);
        Check.due("the latest in its place", row.now(0), 9);
    }

    private static void imageWhole() {
        Check.about("TERRACE, all that is so and the SENTENCE are kept");
        WardrobeRow row = Check.row(TEXT);
        Check.sentence(row, "of p or burnt");
        row.shut(0, 1);
        row.burn(2);
        row.minutes(3);
        row.let(0, 2, 1);
        row.will(1, 2);
        row.sell(0, 0, 1);
        row.leave(0);
        row.go(0, 0);
        row.die(2);
        String before = Check.seen(row);
        int prices = row.prices();
        row.image(1);
        Check.dueText("keeping changes nothing", Check.seen(row), before);
        Check.terrace(row, "house z;owner y;room x z y;");
        Check.sentence(row, "burnt");
        row.burn(0);
        row.restore(1);
        Check.dueText("all is as kept", Check.seen(row), before);
        Check.due("likings, too", row.prices(), prices);
        Check.due("NAMES, too", Check.book(row, "p sells a o;", 0), -1);
        Check.due("SENTENCES of these", Check.sentence(row, "of q or in i"), 2);
        row.minutes(1);
        row.restore(1);
        Check.dueText("as kept once more", Check.seen(row), before);
    }

    private static void restoreLeaves() {
        Check.about("restore: the tape, and what other calls told last, stays; nothing can be undone");
        WardrobeRow row = Check.row(TEXT);
        row.image(0);
        row.way(0, 1);
        row.asks(0, 2);
        row.prices();
        Check.book(row, "o goes b;o goes c;", 0);
        Check.sentence(row, "of x");
        row.minutes(1);
        row.feed(0, 0, 0, 0, 0);
        Check.due("restore(0)", row.restore(0), true);
        Check.due("the tape", row.count(5), 20);
        Check.due("step(0)", row.step(0), 1);
        Check.due("asked()", row.asked(), 0b100);
        Check.due("price(1)", row.price(1), 0);
        Check.due("wants(0)", row.wants(0), 1);
        Check.due("booked(0)", row.booked(0), 4);
        Check.due("fault()", row.fault(), 3);
        Check.due("nothing can be undone", row.undo(), -1);
        row.minutes(1);
        Check.due("a restore() that is false", row.restore(1) || row.restore(2), false);
        Check.due("leaves what can be undone", row.undo(), 0);
    }

    private static void threwChangesNothing() {
        Check.about("A call that throws changes nothing");
        WardrobeRow row = Check.row(TEXT);
        row.minutes(1);
        row.feed(0, 0, 0, 0, 0);
        Check.sentence(row, "!");
        row.feed(0, 0, 0, 0, 0);
        String before = Check.seen(row);
        Check.dueThrown("room(3, 0)", row, 3, 0);
        Check.dueThrown("room(0, 5)", row, 0, 5);
        Check.dueText("all stays", Check.seen(row), before);
        Check.due("the tape stays", row.count(5), 20);
        Check.due("fault() stays", row.fault(), 1);
        Check.due("what can be undone stays", row.undo(), 0);
    }

    private static void manyCalls() {
        Check.about("An object is used for at most 512 calls");
        WardrobeRow row = Check.row(TEXT);
        row.let(0, 1, 1);
        for (int i = 0; i < 250; i++) {
            Check.due("go", row.go(1, 1 - i % 2), 0);
            Check.due("goings", row.now(5), i + 1);
        }
    }
}
