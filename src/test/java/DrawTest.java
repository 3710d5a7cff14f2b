/** Promises 39 and 40: drawn, odds. What is drawn is done again here, call by call, on a second object. */
public final class DrawTest {
    private static final String TEXT = "house h;owner o;owner p;owner q;room a h o;room b h p;room c h q;room d h o;"
        + "room e h p;door a b;robe b c;door c d;door d e;door a e;at o a;heir o p;heir p q;leave p o;";
    private static int x;

    public static void main(String[] args) {
        for (int seed = -40; seed < 40; seed++) {
            alike(seed * 7919, 1 + (seed & 7));
        }
        alike(Integer.MAX_VALUE, 10);
        alike(Integer.MIN_VALUE, 10);
        notAsTold();
        odds();
        Check.close();
    }

    private static int draw(int n) {
        x = x * 1103515245 + 12345;
        return (x >>> 8) % n;
    }

    private static void byHand(WardrobeRow row, int n) {
        int owners = row.count(1);
        int rooms = row.count(2);
        for (int i = 0; i < n; i++) {
            for (int p = 0; p < owners; p++) {
                if (row.owner(p, 1) == 0) {
                    continue;
                }
                switch (draw(4)) {
                    case 0:
                        row.go(p, draw(rooms));
                        break;
                    case 1:
                        row.let(p, draw(owners), 1);
                        break;
                    case 2:
                        int r = draw(rooms);
                        row.sell(p, r, draw(owners));
                        break;
                    default:
                        break;
                }
            }
            if (draw(60) == 0) {
                row.burn(draw(rooms));
            }
            row.minutes(1);
        }
    }

    private static long stateOf(WardrobeRow row) {
        long state = 7;
        for (int r = 0; r < row.count(2); r++) {
            for (int what = 0; what < 5; what++) {
                state = state * 31 + row.room(r, what);
            }
        }
        for (int p = 0; p < row.count(1); p++) {
            for (int what = 0; what < 6; what++) {
                state = state * 31 + row.owner(p, what);
            }
        }
        for (int what = 0; what < 6; what++) {
            state = state * 31 + row.now(what);
        }
        return state;
    }

    private static void alike(int seed, int n) {
        WardrobeRow drawn = Check.row(TEXT);
        WardrobeRow done = Check.row(TEXT);
        x = seed;
        byHand(done, n);
        long before = stateOf(drawn);
        Check.due("the minute", drawn.drawn(n, seed), n);
        Check.due("drawn by " + seed, stateOf(drawn), stateOf(done));
        Check.due("undone", drawn.undo(), 0);
        Check.due("as before", stateOf(drawn), before);
    }

    private static void notAsTold() {
        WardrobeRow row = Check.row(TEXT);
        Check.due("0, 61, -1", row.drawn(0, 1) + row.drawn(61, 1) + row.drawn(-1, 1), -3);
        Check.due("60", row.drawn(60, 1), 60);
        WardrobeRow empty = Check.row("house h;owner o;");
        Check.due("no ROOMS", empty.drawn(1, 1), -1);
        Check.due("no such room", empty.odds(0, 1, 1), -1);
        for (int i = 0; i < 15; i++) {
            row.minutes(60);
        }
        Check.due("960", row.now(0), 960);
        Check.due("above 999", row.drawn(40, 1), -1);
        Check.due("999", row.drawn(39, 1), 999);
        Check.due("odds above 999", row.odds(0, 1, 1), -1);
        row.undo();
        row.minutes(19);
        Check.due("979", row.now(0), 979);
        Check.due("odds to 999", row.odds(0, 1, 1) >= 0, true);
        row.minutes(1);
        Check.due("odds to 1000", row.odds(0, 1, 1), -1);
    }

    private static int oddsByHand(int r, int n, int seed) {
        int burnt = 0;
        for (int i = 0; i < n; i++) {
            WardrobeRow row = Check.row(TEXT);
            row.drawn(20, seed + i);
            burnt += row.room(r, 2);
        }
        return burnt;
    }

    private static void odds() {
        WardrobeRow row = Check.row(TEXT);
        long before = stateOf(row);
        Check.due("40 seeds", row.odds(0, 40, 3), oddsByHand(0, 40, 3));
        Check.due("one seed", row.odds(4, 1, -9), oddsByHand(4, 1, -9));
        Check.due("seeds that wrap", row.odds(2, 30, Integer.MAX_VALUE - 10), oddsByHand(2, 30, Integer.MAX_VALUE - 10));
        Check.due("all stays", stateOf(row), before);
        Check.due("nothing to undo", row.undo(), -1);
        Check.due("not as told", row.odds(0, 0, 1) + row.odds(0, 41, 1) + row.odds(5, 1, 1) + row.odds(-1, 1, 1), -4);
        row.burn(1);
        Check.due("burnt already", row.odds(1, 40, 5), 40);
    }
}
