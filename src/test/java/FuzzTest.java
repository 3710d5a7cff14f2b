import java.util.NoSuchElementException;
import java.util.Random;

/**
 * Calls by a fixed seed, many of them wrong, over texts made of words in no good order: nothing but what room()
 * throws is ever thrown, a FAULT stands within its text, and what is so stays sound.
 */
public final class FuzzTest {
    private static final String[] WORDS = ("house owner room door robe at leave heir likes goes sells lets bars dies"
        + " wills shuts opens burns minute or and not burnt free of in people doors worth number ha hb ann bob cid kit"
        + " den hal bed ; ; ; ; < = > ( ) . 0 1 5 9 10 19 20 60 61 99 100 x1 abcdefgh A !").split(" ");
    private static final String TERRACE = "house ha;house hb;owner ann;owner bob;owner cid;room kit ha ann;"
        + "room den ha bob;room hal hb bob;room bed hb cid;door kit den;robe den hal;door hal bed;door kit bed;"
        + "at ann kit;at bob hal;leave bob ann;heir ann cid;heir cid bob;likes ann bed 5;likes bob kit 7;";
    private static final String[] LINES = ("ann goes den;ann goes kit;bob goes den;bob goes hal;cid goes bed;"
        + "bob sells den ann;ann sells kit cid;ann lets bob;bob lets cid;bob bars ann;cid dies;ann wills bob;"
        + "shuts 0;opens 0;shuts 3;burns bed;burns hal;minute 1;minute 20;").split("(?<=;)");
    private static final Random RANDOM = new Random(47);

    public static void main(String[] args) {
        for (int i = 0; i < 300; i++) {
            WardrobeRow row = new WardrobeRow();
            if (i % 5 > 0) {
                Check.terrace(row, TERRACE);
            }
            for (int j = 0; j < 250; j++) {
                call(row);
                sound(row);
            }
        }
        Check.close();
    }

    private static int number() {
        switch (RANDOM.nextInt(8)) {
            case 0:
                return RANDOM.nextInt();
            case 1:
                return -1 - RANDOM.nextInt(3);
            case 2:
                return RANDOM.nextInt(70);
            default:
                return RANDOM.nextInt(5);
        }
    }

    private static String soup() {
        StringBuilder text = new StringBuilder();
        int parts = RANDOM.nextInt(60);
        for (int i = 0; i < parts; i++) {
            text.append(WORDS[RANDOM.nextInt(WORDS.length)]).append(RANDOM.nextInt(9) == 0 ? "" : " ");
        }
        return text.toString();
    }

    private static String text() {
        StringBuilder text = new StringBuilder();
        switch (RANDOM.nextInt(4)) {
            case 0:
                return soup();
            case 1:
                for (int i = RANDOM.nextInt(12); i > 0; i--) {
                    text.append(LINES[RANDOM.nextInt(LINES.length)]);
                }
                return text.toString();
            case 2:
                text.append(TERRACE);
                for (int i = RANDOM.nextInt(3); i > 0; i--) {
                    text.setCharAt(RANDOM.nextInt(text.length()), (char) (RANDOM.nextInt(256)));
                }
                return text.toString();
            default:
                text.append("not burnt");
                for (int i = RANDOM.nextInt(15); i > 0; i--) {
                    text.append(RANDOM.nextBoolean() ? " and " : " or ").append("people > ").append(RANDOM.nextInt(3));
                }
                return text.toString();
        }
    }

    private static void call(WardrobeRow row) {
        int a = number();
        int b = number();
        int c = number();
        switch (RANDOM.nextInt(46)) {
            case 0: reading(row); break;
            case 1: row.go(a, b); break;
            case 2: row.leave(a); break;
            case 3: row.sell(a, b, c); break;
            case 4: row.let(a, b, c); break;
            case 5: row.will(a, b); break;
            case 6: if (c == 0) { row.die(a); } break;
            case 7: row.shut(a, b); break;
            case 8: if (c == 0) { row.burn(a); } break;
            case 9: row.minutes(a); break;
            case 10: row.undo(); break;
            case 11: row.way(a, b); break;
            case 12: row.step(a); break;
            case 13: row.barred(a); break;
            case 14: row.asks(a, b); break;
            case 15: row.asked(); break;
            case 16: row.through(a, b); break;
            case 17: row.fire(a); break;
            case 18: row.spread(a); break;
            case 19: row.cut(a); break;
            case 20: row.exchange(a); break;
            case 21: row.rings(); break;
            case 22: row.prices(); break;
            case 23: row.price(a); break;
            case 24: row.wants(a); break;
            case 25: Check.tape(row, a, b, c); row.walked(); break;
            case 26: Check.tape(row, a, b); row.corridor(c); break;
            case 27: row.heir(a); break;
            case 28: row.guests(a); break;
            case 29: row.mixed(); break;
            case 30: if (c == 0) { row.drawn(a, b); } break;
            case 31: if (c == 0) { row.odds(a, b, c); } break;
            case 32: row.booked(a); break;
            case 33: row.said(a); break;
            case 34: row.image(a); break;
            case 35: row.restore(a); break;
            case 36: row.count(a); break;
            case 37: row.owner(a, b); break;
            case 38: row.passage(a, b); break;
            case 39: row.now(a); break;
            case 40: row.feed(a, b, c, a, b); break;
            case 41: row.end(a); break;
            default: reading(row); break;
        }
    }

    private static void reading(WardrobeRow row) {
        String text = text();
        Check.tape(row, text);
        int answer;
        switch (RANDOM.nextInt(4)) {
            case 0:
                answer = row.terrace();
                within("terrace", answer, -1 - answer, Math.min(900, text.length()), row.fault());
                break;
            case 1:
                answer = row.sentence();
                within("sentence", answer, -1 - answer, Math.min(200, text.length()), row.fault());
                break;
            default:
                answer = row.book(RANDOM.nextInt(2));
                within("book", answer == -1 ? 0 : answer, -2 - answer, Math.min(400, text.length()), row.fault());
                break;
        }
        Check.due("empty tape", row.count(5), 0);
    }

    private static void within(String what, int answer, int place, int bytes, int kind) {
        if (answer >= 0) {
            Check.due(what + ": no FAULT", kind, 0);
        } else {
            Check.due(what + ": FAULT at " + place + " of " + bytes, place >= 0 && place <= bytes, true);
            Check.due(what + ": kind " + kind, kind >= 1 && kind <= 4, true);
        }
    }

    private static void sound(WardrobeRow row) {
        int dead = row.now(1);
        int owned = 0;
        for (int p = 0; p < row.count(1); p++) {
            boolean lives = row.owner(p, 1) == 1;
            int at = row.owner(p, 0);
            owned |= row.owner(p, 2);
            Check.due("dead as bits", (dead >> p & 1) == 0, lives);
            Check.due("the dead are nowhere and own nothing", lives || at == -1 && row.owner(p, 2) == 0, true);
            Check.due("nobody is where it is burnt", at >= 0 && row.room(at, 2) == 1, false);
        }
        Check.due("each room is owned or free", (owned ^ row.now(3)), (1 << row.count(2)) - 1);
        boolean thrown = false;
        try {
            row.room(row.count(2), 0);
        } catch (NoSuchElementException e) {
            thrown = true;
        }
        Check.due("no such room", thrown, true);
    }
}
