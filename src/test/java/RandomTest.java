import java.util.Random;

/**
 * Terraces and deeds by a fixed seed; what the class answers is found again by the plainest search through the face:
 * ways and askings by trying, cuts by all sets of doors, exchanges one ring at a time, fires by letting them burn.
 */
public final class RandomTest {
    private static final Random RANDOM = new Random(20261118);

    public static void main(String[] args) {
        for (int i = 0; i < 400; i++) {
            WardrobeRow row = Check.row(text());
            for (int j = 0; j < 6; j++) {
                deed(row);
                ways(row);
                asking(row);
                fires(row);
                cuts(row);
                exchanges(row);
                goings(row);
            }
        }
        Check.close();
    }

    private static int upTo(int n) {
        return RANDOM.nextInt(n);
    }

    private static String text() {
        int owners = 2 + upTo(4);
        int rooms = 3 + upTo(6);
        StringBuilder text = new StringBuilder("house hh;house ii;");
        for (int p = 0; p < owners; p++) {
            text.append("owner o").append((char) ('a' + p)).append(';');
        }
        for (int r = 0; r < rooms; r++) {
            text.append("room r").append((char) ('a' + r)).append(upTo(2) == 0 ? " hh " : " ii ")
                .append('o').append((char) ('a' + upTo(owners))).append(';');
        }
        int passages = 0;
        for (int r = 0; r < rooms; r++) {
            for (int s = r + 1; s < rooms && passages < 12; s++) {
                if (upTo(5) < 2) {
                    text.append(upTo(4) == 0 ? "robe r" : "door r").append((char) ('a' + r)).append(" r")
                        .append((char) ('a' + s)).append(';');
                    passages++;
                }
            }
        }
        for (int p = 0; p < owners; p++) {
            if (upTo(4) > 0) {
                text.append("at o").append((char) ('a' + p)).append(" r").append((char) ('a' + upTo(rooms))).append(';');
            }
            int q = upTo(owners);
            if (q != p) {
                text.append("leave o").append((char) ('a' + p)).append(" o").append((char) ('a' + q)).append(';');
                text.append("heir o").append((char) ('a' + p)).append(" o").append((char) ('a' + q)).append(';');
            }
            text.append("likes o").append((char) ('a' + p)).append(" r").append((char) ('a' + upTo(rooms)))
                .append(' ').append(1 + upTo(9)).append(';');
        }
        return text.toString();
    }

    private static void deed(WardrobeRow row) {
        int p = upTo(row.count(1));
        int r = upTo(row.count(2));
        int q = upTo(row.count(1));
        switch (upTo(8)) {
            case 0: row.go(p, r); break;
            case 1: row.sell(p, r, q); break;
            case 2: row.let(p, q, 1); break;
            case 3: row.burn(r); break;
            case 4: row.shut(upTo(12), 1); break;
            case 5: row.let(p, q, 0); break;
            case 6: if (upTo(3) == 0) { row.die(p); } break;
            default: if (upTo(3) == 0) { row.minutes(1); } break;
        }
    }

    private static boolean opens(WardrobeRow row, int k, int closed) {
        return row.passage(k, 3) == 0 && (closed >> k & 1) == 0;
    }

    private static boolean joined(WardrobeRow row, int r, int s, int closed) {
        for (int k = 0; k < row.count(3); k++) {
            boolean there = row.passage(k, 0) == r && row.passage(k, 1) == s;
            boolean back = row.passage(k, 0) == s && row.passage(k, 1) == r;
            if ((there || back) && opens(row, k, closed)) {
                return true;
            }
        }
        return false;
    }

    private static boolean enters(WardrobeRow row, int p, int r, int letting) {
        int host = row.room(r, 1);
        boolean leave = host < 0 || host == p || (row.owner(host, 3) >> p & 1) == 1 || (letting >> host & 1) == 1;
        return leave && row.room(r, 2) == 0;
    }

    /** Fewest goings by trying all of so many, in order: the first way found is the least; kept in found. */
    private static int[] found;

    private static boolean tries(WardrobeRow row, int p, int at, int r, int left, int letting) {
        if (left == 0) {
            return at == r;
        }
        for (int s = 0; s < row.count(2); s++) {
            boolean gone = (at < 0 || joined(row, at, s, 0)) && enters(row, p, s, letting);
            if (gone) {
                found[found.length - left] = s;
                if (tries(row, p, s, r, left - 1, letting)) {
                    return true;
                }
            }
        }
        return false;
    }

    private static int fewest(WardrobeRow row, int p, int r, int letting) {
        if (row.owner(p, 1) == 0) {
            return -1;
        }
        int most = Math.min(row.count(2), 5);
        for (int n = 0; n < most; n++) {
            found = new int[n];
            if (tries(row, p, row.owner(p, 0), r, n, letting)) {
                return n;
            }
        }
        return -1;
    }

    private static void ways(WardrobeRow row) {
        int p = upTo(row.count(1));
        int barred = 0;
        for (int r = 0; r < row.count(2); r++) {
            int due = fewest(row, p, r, 0);
            int got = row.way(p, r);
            barred |= got < 0 ? 1 << r : 0;
            if (due < 0 && got >= 5) {
                continue; // longer than what is tried here
            }
            Check.due("way", got, due);
            int met = 0;
            for (int i = 0; i < due; i++) {
                Check.due("step", row.step(i), found[i]);
                int host = row.room(found[i], 1);
                met |= host < 0 || host == p ? 0 : 1 << host;
            }
            Check.due("no more steps", due < 0 ? -1 : row.step(due), -1);
            Check.due("through", row.through(p, r), due < 0 ? -1 : met);
        }
        Check.due("barred", row.barred(p), barred);
    }

    private static void asking(WardrobeRow row) {
        int p = upTo(row.count(1));
        int r = upTo(row.count(2));
        int due = -1;
        int who = -1;
        for (int letting = 0; letting < 1 << row.count(1); letting++) {
            boolean fewer = due < 0 || Integer.bitCount(letting) < due;
            if (fewer && fewest(row, p, r, letting) >= 0) {
                due = Integer.bitCount(letting);
                who = letting;
            }
        }
        int got = row.asks(p, r);
        if (due >= 0 && got >= 0 && got <= due) {
            Check.due("asks", got < due || row.asked() <= who, true);
        }
        if (due >= 0 && got == due && row.count(2) <= 5) {
            Check.due("asked", row.asked(), who);
        }
        Check.due("asks, if any", due >= 0 && (got < 0 || got > due), false);
        Check.due("asks none that are tried", row.count(2) <= 5 && got != due, false);
    }

    private static void fires(WardrobeRow row) {
        row.image(0);
        int[] burnt = new int[row.count(2) + 1];
        int[] due = new int[row.count(2)];
        for (int n = 0; n < burnt.length; n++) {
            burnt[n] = row.now(2);
            row.minutes(1);
        }
        row.restore(0);
        for (int n = 0; n < burnt.length; n++) {
            Check.due("spread", row.spread(n), burnt[n]);
        }
        for (int r = 0; r < due.length; r++) {
            due[r] = -1;
            for (int n = burnt.length - 1; n >= 0; n--) {
                due[r] = (burnt[n] >> r & 1) == 1 ? n : due[r];
            }
            Check.due("fire", row.fire(r), due[r]);
        }
    }

    private static int burntWith(WardrobeRow row, int closed) {
        int burnt = row.now(2);
        for (int i = 0; i < row.count(2); i++) {
            for (int k = 0; k < row.count(3); k++) {
                int ends = 1 << row.passage(k, 0) | 1 << row.passage(k, 1);
                burnt |= opens(row, k, closed) && (burnt & ends) != 0 ? ends : 0;
            }
        }
        return burnt;
    }

    private static void cuts(WardrobeRow row) {
        int rooms = row.count(2);
        int[] due = new int[rooms];
        java.util.Arrays.fill(due, -1);
        int doors = 0;
        for (int k = 0; k < row.count(3); k++) {
            doors |= row.passage(k, 2) == 0 && row.passage(k, 3) == 0 ? 1 << k : 0;
        }
        for (int set = doors; ; set = set - 1 & doors) {
            int burnt = burntWith(row, set);
            int many = Integer.bitCount(set);
            for (int r = 0; r < rooms; r++) {
                if ((burnt >> r & 1) == 0 && (due[r] < 0 || many < due[r])) {
                    due[r] = many;
                }
            }
            if (set == 0) {
                break;
            }
        }
        for (int r = 0; r < rooms; r++) {
            Check.due("cut", row.cut(r), due[r]);
        }
    }

    private static int liking(WardrobeRow row, int p, int r) {
        // what one likes is seen by prices with all others dead: he wants the best; so ask by burning the others
        row.image(1);
        for (int q = 0; q < row.count(1); q++) {
            if (q != p) {
                row.die(q);
            }
        }
        for (int s = 0; s < row.count(2); s++) {
            if (s != r) {
                row.leave(p);
                row.burn(s);
            }
        }
        row.prices();
        boolean wanted = row.wants(p) == r;
        row.restore(1);
        if (!wanted) {
            return 0;
        }
        int n = 9;
        while (n > 0 && !worth(row, r, n)) {
            n--;
        }
        return n;
    }

    private static boolean worth(WardrobeRow row, int r, int n) {
        Check.sentence(row, "worth = " + n + " and number = " + r);
        return row.said(-1) == 1;
    }

    /** One ring at a time, the least owner's first; only where no two like one room, as worth tells the greatest. */
    private static void exchanges(WardrobeRow row) {
        int owners = row.count(1);
        int rooms = row.count(2);
        int[][] likings = new int[owners][rooms];
        for (int r = 0; r < rooms; r++) {
            int liked = 0;
            for (int p = 0; p < owners; p++) {
                likings[p][r] = row.owner(p, 1) == 0 || row.room(r, 2) == 1 ? 0 : liking(row, p, r);
                liked += likings[p][r] > 0 ? 1 : 0;
            }
            if (liked > 1) {
                return;
            }
        }
        int[] brings = new int[owners];
        for (int p = 0; p < owners; p++) {
            int own = row.owner(p, 2) & ~row.now(2);
            brings[p] = own == 0 ? -1 : Integer.numberOfTrailingZeros(own);
        }
        int[] has = new int[owners];
        java.util.Arrays.fill(has, -1);
        int rings = 0;
        for (int turn = 0; turn < owners; turn++) {
            rings += oneRing(likings, brings, has) > 1 ? 1 : 0;
        }
        for (int p = 0; p < owners; p++) {
            Check.due("exchange", row.exchange(p), has[p]);
        }
        Check.due("rings", row.rings(), rings);
    }

    private static int pointed(int[][] likings, int[] brings, int p) {
        int best = p;
        for (int q = 0; q < brings.length; q++) {
            if (brings[q] < 0 || q == p) {
                continue;
            }
            int more = likings[p][brings[q]] - likings[p][brings[best]];
            if (more > 0 || more == 0 && best != p && brings[q] < brings[best]) {
                best = q;
            }
        }
        return best;
    }

    private static int oneRing(int[][] likings, int[] brings, int[] has) {
        for (int p = 0; p < brings.length; p++) {
            if (brings[p] < 0) {
                continue;
            }
            int at = p;
            for (int i = 0; i < brings.length; i++) {
                at = pointed(likings, brings, at);
            }
            int first = at;
            int many = 0;
            int[] next = new int[brings.length];
            do {
                next[at] = pointed(likings, brings, at);
                has[at] = brings[next[at]];
                at = next[at];
                many++;
            } while (at != first);
            do {
                brings[at] = -1;
                at = next[at];
            } while (at != first);
            return many;
        }
        return 0;
    }

    /** A way that was told can be gone. */
    private static void goings(WardrobeRow row) {
        int p = upTo(row.count(1));
        int r = upTo(row.count(2));
        int n = row.way(p, r);
        row.image(0);
        for (int i = 0; i < n; i++) {
            Check.due("goes", row.go(p, row.step(i)), 0);
        }
        Check.due("is there", n < 0 || row.owner(p, 0) == r, true);
        row.restore(0);
    }
}
