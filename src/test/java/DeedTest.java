/** Promises 9 to 19: now, go, leave, sell, let, will, die, shut, burn, minutes, undo. */
public final class DeedTest {
    /** Rooms 0 a, 1 b, 2 c of o; 3 d, 4 e of p; 5 f of q. Passages 0 a-b door, 1 b-c robe, 2 c-d door, 3 d-e door. */
    private static final String TEXT = "house h;owner o;owner p;owner q;room a h o;room b h o;room c h o;"
        + "room d h p;room e h p;room f h q;door a b;robe b c;door c d;door d e;at o a;";

    public static void main(String[] args) {
        going();
        leaving();
        selling();
        letting();
        willing();
        dying();
        shutting();
        burning();
        passing();
        undoing();
        undoingEach();
        noSuchOnes();
        Check.close();
    }

    private static void going() {
        WardrobeRow row = Check.row(TEXT);
        Check.due("to where he is", row.go(0, 0), 3);
        Check.due("no passage", row.go(0, 2), 3);
        Check.due("door", row.go(0, 1), 0);
        Check.due("robe", row.go(0, 2), 0);
        Check.due("no leave", row.go(0, 3), 4);
        row.shut(2, 1);
        Check.due("shut is less than no leave", row.go(0, 3), 3);
        row.burn(3);
        Check.due("burnt is less than shut", row.go(0, 3), 2);
        Check.due("his goings", row.owner(0, 5), 2);
        Check.due("all goings", row.now(5), 2);
        Check.due("comes in to his own", row.go(2, 5), 0);
        Check.due("all goings then", row.now(5), 3);
        Check.due("comes in without leave", row.go(1, 0), 4);
        row.let(0, 1, 1);
        Check.due("comes in by leave", row.go(1, 0), 0);
        row.let(0, 1, 0);
        Check.due("barred, he stays", row.owner(1, 0), 0);
        Check.due("barred, he does not go on", row.go(1, 1), 4);
        row.die(0);
        Check.due("dead", row.go(0, 3), 1);
        Check.due("free room", row.go(1, 1), 0);
    }

    private static void leaving() {
        WardrobeRow row = Check.row(TEXT);
        Check.due("leaves", row.leave(0), true);
        Check.due("is out", row.owner(0, 0), -1);
        Check.due("out already", row.leave(0), false);
        Check.due("no going", row.now(5), 0);
        Check.due("no such one", row.leave(3), false);
        Check.due("no such one", row.leave(-1), false);
        row.go(0, 0);
        row.die(0);
        Check.due("dead", row.leave(0), false);
    }

    private static void selling() {
        WardrobeRow row = Check.row(TEXT);
        Check.due("sold", row.sell(0, 0, 1), 0);
        Check.due("owner then", row.room(0, 1), 1);
        Check.due("not his now", row.sell(0, 0, 2), 2);
        row.burn(5);
        Check.due("burnt", row.sell(2, 5, 0), 3);
        Check.due("not his, burnt", row.sell(1, 5, 0), 2);
        row.die(2);
        Check.due("to a dead one", row.sell(0, 1, 2), 1);
        Check.due("by a dead one", row.sell(2, 5, 0), 1);
        Check.due("free: not his", row.sell(0, 5, 1), 2);
        Check.due("sales", row.now(4), 1);
        Check.due("alike", row.sell(0, 1, 0), -1);
    }

    private static void letting() {
        WardrobeRow row = Check.row(TEXT + "leave o p;");
        Check.due("so already", row.let(0, 1, 1), 2);
        Check.due("lets", row.let(0, 2, 1), 0);
        Check.due("whom", row.owner(0, 3), 6);
        Check.due("bars", row.let(0, 1, 0), 0);
        Check.due("whom then", row.owner(0, 3), 4);
        Check.due("barred already", row.let(0, 1, 0), 2);
        Check.due("not the other way round", row.let(1, 0, 0), 2);
        Check.due("on 2", row.let(0, 1, 2), -1);
        Check.due("on -1", row.let(0, 1, -1), -1);
        Check.due("alike", row.let(0, 0, 1), -1);
        row.die(2);
        Check.due("a dead one", row.let(0, 2, 1), 1);
        Check.due("a dead one barred", row.let(0, 2, 0), 1);
        Check.due("by a dead one", row.let(2, 0, 1), 1);
        Check.due("leave of the dead stays", row.owner(0, 3), 4);
    }

    private static void willing() {
        WardrobeRow row = Check.row(TEXT + "heir o p;");
        Check.due("so already", row.will(0, 1), 2);
        Check.due("instead", row.will(0, 2), 0);
        Check.due("heir", row.owner(0, 4), 2);
        Check.due("alike", row.will(0, 0), -1);
        row.die(2);
        Check.due("to a dead one", row.will(0, 2), 1);
        Check.due("by a dead one", row.will(2, 0), 1);
        Check.due("back", row.will(0, 1), 0);
    }

    private static void dying() {
        WardrobeRow row = Check.row(TEXT + "heir o p;heir p q;");
        Check.due("dies", row.die(1), 0);
        Check.due("dead already", row.die(1), 1);
        Check.due("his rooms", row.owner(2, 2), 0b111000);
        Check.due("he owns none", row.owner(1, 2), 0);
        Check.due("heir of a dead heir", row.die(0), 0);
        Check.due("all rooms", row.owner(2, 2), 0b111111);
        Check.due("out", row.owner(0, 0), -1);
        Check.due("dead", row.now(1), 3);
        Check.due("the last one", row.die(2), 0);
        Check.due("free rooms", row.now(3), 0b111111);
        WardrobeRow round = Check.row(TEXT + "heir o p;heir p o;");
        round.die(1);
        Check.due("to the other", round.owner(0, 2), 0b11111);
        round.die(0);
        Check.due("comes round", round.now(3), 0b11111);
        WardrobeRow dead = Check.row(TEXT + "heir o p;heir p q;heir q p;");
        dead.die(1);
        dead.die(2);
        Check.due("free once", dead.now(3), 0b111000);
        dead.die(0);
        Check.due("a round of dead ones", dead.now(3), 0b111111);
    }

    private static void shutting() {
        WardrobeRow row = Check.row(TEXT);
        Check.due("a robe", row.shut(1, 1), 1);
        Check.due("a robe opened", row.shut(1, 0), 1);
        Check.due("open already", row.shut(0, 0), 2);
        Check.due("shut", row.shut(0, 1), 0);
        Check.due("is shut", row.passage(0, 3), 1);
        Check.due("shut already", row.shut(0, 1), 2);
        Check.due("not through", row.go(0, 1), 3);
        Check.due("opened", row.shut(0, 0), 0);
        Check.due("through", row.go(0, 1), 0);
        Check.due("on 2", row.shut(0, 2), -1);
        Check.due("no such one", row.shut(4, 1), -1);
        Check.due("no such one", row.shut(-1, 1), -1);
    }

    private static void burning() {
        WardrobeRow row = Check.row(TEXT + "at p a;heir o p;heir p q;");
        Check.due("burns", row.burn(0), 0);
        Check.due("burnt already", row.burn(0), 1);
        Check.due("both dead", row.now(1), 3);
        Check.due("burnt rooms", row.now(2), 1);
        // o dies first and leaves to p, p then leaves all to q
        Check.due("by numbers", row.owner(2, 2), 0b111111);
        WardrobeRow back = Check.row(TEXT + "at p a;heir p o;");
        back.burn(0);
        // o dies first, so p has no living heir
        Check.due("first o, then p", back.now(3), 0b011111);
        Check.due("no such one", row.burn(6), -1);
        Check.due("no such one", row.burn(-1), -1);
    }

    private static void passing() {
        WardrobeRow row = Check.row(TEXT);
        row.burn(0);
        Check.due("one minute", row.minutes(1), 1);
        Check.due("one room a minute", row.now(2), 0b11);
        row.shut(2, 1);
        Check.due("two more", row.minutes(2), 3);
        Check.due("through the robe, not the door", row.now(2), 0b111);
        Check.due("0", row.minutes(0), -1);
        Check.due("61", row.minutes(61), -1);
        Check.due("-1", row.minutes(-1), -1);
        Check.due("60", row.minutes(60), 63);
        for (int i = 0; i < 15; i++) {
            row.minutes(60);
        }
        Check.due("963", row.now(0), 963);
        Check.due("above 999", row.minutes(37), -1);
        Check.due("999", row.minutes(36), 999);
        Check.due("no more", row.minutes(1), -1);
        // b and d catch fire in one minute: b's people die first
        WardrobeRow two = Check.row("house h;owner o;owner p;room a h o;room b h o;room c h p;door a b;door a c;"
            + "at p b;at o c;heir p o;heir o p;");
        two.burn(0);
        two.minutes(1);
        Check.due("p ahead of o, by rooms", two.now(3), 0b111);
        Check.due("dead", two.now(1), 3);
    }

    private static void undoing() {
        WardrobeRow row = Check.row(TEXT + "heir o p;");
        Check.due("nothing to undo", row.undo(), -1);
        row.go(0, 5);
        row.leave(2);
        row.sell(1, 0, 2);
        row.let(0, 1, 0);
        row.will(0, 1);
        row.shut(1, 1);
        row.minutes(61);
        Check.due("what is not done is not undone", row.undo(), -1);
        row.go(0, 1);
        row.leave(0);
        row.sell(0, 0, 1);
        row.let(0, 1, 1);
        row.will(0, 2);
        row.shut(0, 1);
        row.burn(5);
        row.minutes(7);
        row.die(0);
        Check.due("die undone, 7 more", row.undo(), 7);
        Check.due("lives again", row.owner(0, 1), 1);
        Check.due("has his rooms again", row.owner(0, 2), 0b110);
        Check.due("minutes", row.undo(), 6);
        Check.due("minute", row.now(0), 0);
        Check.due("burn", row.undo(), 5);
        Check.due("burnt", row.now(2), 0);
        Check.due("shut", row.undo(), 4);
        Check.due("is open", row.passage(0, 3), 0);
        Check.due("will", row.undo(), 3);
        Check.due("heir", row.owner(0, 4), 1);
        Check.due("let", row.undo(), 2);
        Check.due("lets", row.owner(0, 3), 0);
        Check.due("sell", row.undo(), 1);
        Check.due("sales", row.now(4), 0);
        Check.due("leave", row.undo(), 0);
        Check.due("is in b again", row.owner(0, 0), 1);
        Check.due("go was the ninth", row.undo(), -1);
        Check.due("his goings stay", row.owner(0, 5), 1);
        row.drawn(3, 5);
        Check.due("drawn undone", row.undo(), 0);
        Check.due("minute", row.now(0), 0);
    }

    private static void dueUndone(String what, WardrobeRow row, int done) {
        // a deed that is not done comes between, so that only the done one's own keeping can bring it back
        WardrobeRow fresh = Check.row(TEXT + "heir o p;");
        Check.due(what + " is done", done, 0);
        row.go(0, 5);
        Check.due(what + " is undone", row.undo(), 0);
        for (int r = 0; r < 6; r++) {
            for (int which = 0; which < 5; which++) {
                Check.due(what + ": room " + r + ", " + which, row.room(r, which), fresh.room(r, which));
            }
        }
        for (int p = 0; p < 3; p++) {
            for (int which = 0; which < 6; which++) {
                Check.due(what + ": owner " + p + ", " + which, row.owner(p, which), fresh.owner(p, which));
            }
        }
        for (int k = 0; k < 4; k++) {
            Check.due(what + ": passage " + k, row.passage(k, 3), 0);
        }
        for (int which = 0; which < 6; which++) {
            Check.due(what + ": now " + which, row.now(which), fresh.now(which));
        }
    }

    private static void undoingEach() {
        String text = TEXT + "heir o p;";
        WardrobeRow row = Check.row(text);
        dueUndone("go", row, row.go(0, 1));
        row = Check.row(text);
        dueUndone("leave", row, row.leave(0) ? 0 : 1);
        row = Check.row(text);
        dueUndone("sell", row, row.sell(0, 0, 1));
        row = Check.row(text);
        dueUndone("let", row, row.let(0, 1, 1));
        row = Check.row(text);
        dueUndone("will", row, row.will(1, 2));
        row = Check.row(text);
        dueUndone("die", row, row.die(0));
        row = Check.row(text);
        dueUndone("shut", row, row.shut(0, 1));
        row = Check.row(text);
        dueUndone("burn", row, row.burn(0));
        row = Check.row(text);
        dueUndone("minutes", row, row.minutes(9) - 9);
        row = Check.row(text);
        dueUndone("drawn", row, row.drawn(9, 4) - 9);
        row = Check.row(text);
        dueUndone("book", row, Check.book(row, "o goes b;shuts 0;burns a;minute 2;p dies;q wills o;", 1) + 1);
    }

    private static void noSuchOnes() {
        WardrobeRow row = Check.row(TEXT);
        Check.due("go", row.go(3, 0) + row.go(-1, 0) + row.go(0, 6) + row.go(0, -1), -4);
        Check.due("sell", row.sell(3, 0, 0) + row.sell(0, 6, 1) + row.sell(0, 0, 3) + row.sell(0, 0, -1), -4);
        Check.due("let", row.let(3, 0, 1) + row.let(0, 3, 1) + row.let(-1, 0, 1) + row.let(0, -1, 0), -4);
        Check.due("will", row.will(3, 0) + row.will(0, 3) + row.will(-1, 0) + row.will(0, -1), -4);
        Check.due("die", row.die(3) + row.die(-1), -2);
        Check.due("now", row.now(6) + row.now(-1), -2);
        Check.due("nothing was done", row.undo(), -1);
        int far = Integer.MAX_VALUE;
        int low = Integer.MIN_VALUE;
        Check.due("far", row.go(far, low) + row.sell(low, far, far) + row.let(far, low, far) + row.burn(low)
            + row.shut(far, low) + row.minutes(far) + row.minutes(low), -7);
    }
}
