import java.lang.reflect.InvocationTargetException;
import java.lang.reflect.Method;
import java.util.ArrayList;
import java.util.List;
import java.util.Map;
import java.util.Random;
import java.util.TreeMap;

/**
 * Runs of calls by a fixed seed, made on the class and on the Model: each answer must be alike. Texts are right ones,
 * right ones that were spoilt at one place, and ones that stand at the limits of their bytes and lines.
 */
public final class ModelTest {
    /** What each argument of a call is: of o owners, r rooms, k passages, h houses, s a switch, w a what, and so on. */
    private static final Map<String, String> CALLS = new TreeMap<>();
    private static final Random RANDOM = new Random(4711);
    private static final int RUNS = 600;
    private static final int CALLS_A_RUN = 500;

    private static WardrobeRow row;
    private static Model model;
    private static int calls;
    private static final List<String> HISTORY = new ArrayList<>();

    public static void main(String[] args) throws Exception {
        String all = "fault: room:rw owner:ow passage:kw now:w go:or go:or go:or leave:o sell:oro let:oos will:oo die:o"
            + " shut:ks burn:r minutes:n undo: way:or way:or step:i barred:o asks:or asked: through:or fire:r spread:n cut:r"
            + " exchange:o rings: prices: price:r wants:o heir:o guests:h mixed: drawn:nx odds:rmx booked:w said:i image:w"
            + " restore:w count:w";
        String[] drawn = all.split(" ");
        for (String call : drawn) {
            CALLS.put(call.substring(0, call.indexOf(':')), call.substring(call.indexOf(':') + 1));
        }
        for (int run = 0; run < RUNS; run++) {
            row = new WardrobeRow();
            model = new Model();
            calls = 0;
            HISTORY.clear();
            if (run % 7 > 0) {
                text(terrace(), "terrace");
            }
            for (int i = 0; run % 5 == 0 && i < 16; i++) {
                alike("minutes", 58 + RANDOM.nextInt(3));
            }
            while (calls < CALLS_A_RUN) {
                step(drawn[RANDOM.nextInt(drawn.length)]);
            }
        }
        full();
        Check.close();
    }

    /** As many HOUSES, OWNERS, ROOMS and PASSAGES as there may be, and all that may be asked of them. */
    private static void full() throws Exception {
        StringBuilder text = new StringBuilder(Check.lines("house", 6, ""));
        for (char p = 'g'; p <= 'l'; p++) {
            text.append("owner ").append(p).append(';');
        }
        for (int r = 0; r < 12; r++) {
            text.append("room ").append((char) ('m' + r)).append(' ').append((char) ('a' + r * 5 % 6)).append(' ')
                .append((char) ('g' + r * 7 % 6)).append(';');
        }
        for (int k = 0; k < 20; k++) {
            int r = k % 12;
            int s = k < 12 ? (r + 1) % 12 : (r + 5) % 12;
            text.append(k % 6 == 5 ? "robe " : "door ").append((char) ('m' + r)).append(' ').append((char) ('m' + s)).append(';');
        }
        for (int p = 0; p < 6; p++) {
            text.append("at ").append((char) ('g' + p)).append(' ').append((char) ('m' + 2 * p)).append(';');
            text.append("heir ").append((char) ('g' + p)).append(' ').append((char) ('g' + (p + 1) % 6)).append(';');
            text.append("leave ").append((char) ('g' + p)).append(' ').append((char) ('g' + (p + 2) % 6)).append(';');
            for (int i = 0; i < 3; i++) {
                text.append("likes ").append((char) ('g' + p)).append(' ').append((char) ('m' + (p * 5 + i * 4) % 12))
                    .append(' ').append(1 + (p + i * 4) % 9).append(';');
            }
        }
        String[][] deeds = {{}, {"burn", "11"}, {"shut", "19", "1"}, {"die", "5"}, {"minutes", "1"}, {"burn", "0"},
            {"minutes", "1"}, {"drawn", "9", "77"}};
        int done = 0;
        for (int i = 0; i < deeds.length; i++) {
            for (String query : QUERIES) {
                // a new object for each, as the deeds among them change what is so
                row = new WardrobeRow();
                model = new Model();
                HISTORY.clear();
                text(text.toString(), "terrace");
                for (int j = 1; j <= i; j++) {
                    alike(deeds[j][0], numbers(deeds[j]));
                }
                done += all(query);
            }
        }
        Check.due("calls on full TERRACES", done > 3000, true);
    }

    private static final String[] QUERIES = {"room:RW", "owner:OW", "passage:KW", "now:W", "way:OR", "barred:O", "asks:OR",
        "through:OR", "fire:R", "spread:R", "cut:R", "exchange:O", "rings:", "prices:", "heir:O", "guests:H", "mixed:", "count:W",
        "go:OR", "leave:O", "sell:ORO", "let:OOS", "will:OO", "die:O", "shut:KS", "burn:R"};

    private static int[] numbers(String[] call) {
        int[] numbers = new int[call.length - 1];
        for (int i = 0; i < numbers.length; i++) {
            numbers[i] = Integer.parseInt(call[i + 1]);
        }
        return numbers;
    }

    /** The call with all numbers that there are and one more at both ends. */
    private static int all(String query) throws Exception {
        String name = query.substring(0, query.indexOf(':'));
        String sorts = query.substring(query.indexOf(':') + 1);
        int[] arguments = new int[sorts.length()];
        java.util.Arrays.fill(arguments, -1);
        int done = 0;
        int place = 0;
        while (place >= 0) {
            alike(name, arguments.clone());
            done++;
            if (name.equals("way") || name.equals("asks") || name.equals("prices")) {
                told(name);
            }
            place = sorts.length() - 1;
            while (place >= 0 && arguments[place] == most(sorts.charAt(place))) {
                arguments[place] = -1;
                place--;
            }
            if (place >= 0) {
                arguments[place]++;
            }
        }
        return done;
    }

    private static int most(char sort) {
        return sort == 'R' ? 12 : sort == 'K' ? 20 : sort == 'S' ? 2 : 6;
    }

    private static void told(String name) throws Exception {
        if (name.equals("asks")) {
            alike("asked");
        }
        for (int i = -1; i <= 12; i++) {
            if (name.equals("way")) {
                alike("step", i);
            } else if (name.equals("prices")) {
                alike("price", i);
                alike("wants", i);
            }
        }
    }

    private static void step(String drawn) throws Exception {
        int dice = RANDOM.nextInt(120);
        if (dice == 0) {
            text(spoilt(terrace(), 900), "terrace");
        } else if (dice <= 3) {
            text(spoilt(book(), 400), "book", edge(2));
        } else if (dice <= 6) {
            text(spoilt(sentence(), 200), "sentence");
        } else if (dice == 7) {
            text(row(20, row.count(2), true), "walked");
        } else if (dice == 8) {
            text(row(6, row.count(1), false), "corridor", edge(row.count(1)));
        } else if (dice == 9) {
            alike("feed", number(), number(), number(), number(), number());
            alike("end", edge(row.count(5) + 1));
        } else {
            String name = drawn.substring(0, drawn.indexOf(':'));
            // the dead and the burnt soon make all answers alike, so such deeds come seldom
            boolean grave = List.of("die", "burn", "drawn", "minutes").contains(name);
            if (!grave || RANDOM.nextInt(4) == 0) {
                alike(name, arguments(CALLS.get(name)));
            }
        }
    }

    private static int number() {
        return RANDOM.nextInt(3) == 0 ? RANDOM.nextInt() : RANDOM.nextInt(16);
    }

    /** Mostly from 0 on and below n; else at an edge of that or far off. */
    private static int edge(int n) {
        switch (RANDOM.nextInt(30)) {
            case 0:
                return -1;
            case 1:
                return n;
            case 2:
                int[] far = {n + 1, -2, Integer.MAX_VALUE, Integer.MIN_VALUE, RANDOM.nextInt()};
                return far[RANDOM.nextInt(far.length)];
            default:
                return n > 0 ? RANDOM.nextInt(n) : 0;
        }
    }

    private static int[] arguments(String sorts) {
        int[] arguments = new int[sorts.length()];
        for (int i = 0; i < arguments.length; i++) {
            switch (sorts.charAt(i)) {
                case 'o': arguments[i] = edge(row.count(1)); break;
                case 'r': arguments[i] = edge(row.count(2)); break;
                case 'h': arguments[i] = edge(row.count(0)); break;
                case 'k': arguments[i] = edge(row.count(3)); break;
                case 's': arguments[i] = edge(2); break;
                case 'w': arguments[i] = edge(6); break;
                case 'i': arguments[i] = edge(8); break;
                case 'n': arguments[i] = RANDOM.nextInt(3) == 0 ? edge(61) : 1 + RANDOM.nextInt(9); break;
                case 'm': arguments[i] = RANDOM.nextInt(3) == 0 ? edge(41) : 1 + RANDOM.nextInt(3); break;
                default: arguments[i] = RANDOM.nextInt(4) == 0 ? Integer.MAX_VALUE - RANDOM.nextInt(3) : RANDOM.nextInt();
            }
        }
        return arguments;
    }

    // ---- calls ----

    private static long answer(Object on, Method method, Object[] arguments) throws Exception {
        try {
            Object answer = method.invoke(on, arguments);
            return answer instanceof Boolean yes ? yes ? 1 : 0 : (Integer) answer;
        } catch (InvocationTargetException e) {
            return Long.MIN_VALUE + e.getCause().getClass().getName().hashCode();
        }
    }

    private static void alike(String name, int... numbers) throws Exception {
        Class<?>[] types = new Class<?>[numbers.length];
        Object[] arguments = new Object[numbers.length];
        StringBuilder told = new StringBuilder(name).append('(');
        for (int i = 0; i < numbers.length; i++) {
            types[i] = int.class;
            arguments[i] = numbers[i];
            told.append(i == 0 ? "" : ", ").append(numbers[i]);
        }
        told.append(')');
        long got = answer(row, WardrobeRow.class.getDeclaredMethod(name, types), arguments);
        long want = answer(model, Model.class.getDeclaredMethod(name, types), arguments);
        HISTORY.add(told.toString());
        Check.due(told.toString(), got, want);
        if (got != want) {
            System.out.println("  behind " + String.join(" ", HISTORY));
            System.exit(1);
        }
        calls++;
    }

    private static void text(String text, String reader, int... arguments) throws Exception {
        alike("end", 0);
        for (int i = 0; i < text.length(); i += 20) {
            int[] five = new int[5];
            for (int j = 0; j < 20; j++) {
                five[j / 4] = five[j / 4] << 8 | (i + j < text.length() ? text.charAt(i + j) & 255 : 0);
            }
            alike("feed", five);
        }
        alike("end", text.length());
        HISTORY.add("'" + text + "'");
        alike(reader, arguments);
        alike("fault");
    }

    // ---- texts ----

    private static String row(int most, int many, boolean chained) {
        StringBuilder text = new StringBuilder();
        int length = RANDOM.nextInt(6) == 0 ? RANDOM.nextInt(most + 3) : 1 + RANDOM.nextInt(4);
        for (int i = 0; i < length; i++) {
            int next = edge(many) & 255;
            if (chained && i > 0 && RANDOM.nextInt(5) > 0) {
                next = neighbour(text.charAt(i - 1), next);
            }
            text.append((char) next);
        }
        return text.toString();
    }

    private static int neighbour(int r, int otherwise) {
        int passages = row.count(3);
        int first = passages == 0 ? 0 : RANDOM.nextInt(passages);
        for (int i = 0; i < passages; i++) {
            int k = (first + i) % passages;
            if (row.passage(k, 0) == r) {
                return row.passage(k, 1);
            }
            if (row.passage(k, 1) == r) {
                return row.passage(k, 0);
            }
        }
        return otherwise;
    }

    private static String any(String... all) {
        return all[RANDOM.nextInt(all.length)];
    }

    private static final String[] HOUSES = {"h", "hall", "hut", "hovel", "hostels", "hx"};
    private static final String[] OWNERS = {"o", "ann", "bob", "cid", "dorothy", "ed"};
    private static final String[] ROOMS = {"r", "kit", "den", "hal", "bed", "bath", "loft", "cellar", "s", "t", "u", "parlour"};

    private static String terrace() {
        int houses = 1 + RANDOM.nextInt(RANDOM.nextInt(6) == 0 ? 6 : 3);
        int owners = 1 + RANDOM.nextInt(6);
        int rooms = 1 + RANDOM.nextInt(RANDOM.nextInt(3) == 0 ? 12 : 7);
        StringBuilder text = new StringBuilder();
        for (int i = 0; i < houses; i++) {
            text.append("house ").append(HOUSES[i]).append(';');
        }
        for (int i = 0; i < owners; i++) {
            text.append("owner ").append(OWNERS[i]).append(';');
        }
        for (int i = 0; i < rooms; i++) {
            text.append("room ").append(ROOMS[i]).append(' ').append(HOUSES[RANDOM.nextInt(houses)]).append(' ')
                .append(OWNERS[RANDOM.nextInt(owners)]).append(';');
        }
        boolean dense = RANDOM.nextInt(4) == 0;
        int passages = 0;
        for (int i = 0; i < rooms; i++) {
            for (int j = 0; j < i; j++) {
                if (RANDOM.nextInt(10) < (dense ? 8 : 4) && passages < 11) {
                    boolean turned = RANDOM.nextBoolean();
                    text.append(RANDOM.nextInt(4) == 0 ? "robe " : "door ").append(ROOMS[turned ? i : j]).append(' ')
                        .append(ROOMS[turned ? j : i]).append(';');
                    passages++;
                }
            }
        }
        int kind = 1 + RANDOM.nextInt(4);
        for (int i = 0; i < owners; i++) {
            String who = OWNERS[i];
            if (RANDOM.nextInt(4) > 0) {
                text.append("at ").append(who).append(' ').append(ROOMS[RANDOM.nextInt(rooms)]).append(';');
            }
            int q = RANDOM.nextInt(owners);
            if (q != i) {
                text.append("heir ").append(who).append(' ').append(OWNERS[q]).append(';');
            }
            for (q = 0; q < owners; q++) {
                if (q != i && RANDOM.nextInt(kind) == 0) {
                    text.append("leave ").append(who).append(' ').append(OWNERS[q]).append(';');
                }
            }
            for (int r = 0; r < rooms; r++) {
                if (RANDOM.nextInt(3) == 0 && text.length() < 870) {
                    text.append("likes ").append(who).append(' ').append(ROOMS[r]).append(' ')
                        .append(1 + RANDOM.nextInt(9)).append(';');
                }
            }
        }
        return text.toString();
    }

    private static String name(String[] names, int count) {
        return names[RANDOM.nextInt(Math.max(1, Math.min(names.length, count)))];
    }

    private static String book() {
        StringBuilder text = new StringBuilder();
        int lines = RANDOM.nextInt(5) == 0 ? 36 + RANDOM.nextInt(6) : RANDOM.nextInt(9);
        for (int i = 0; i < lines; i++) {
            String o = name(OWNERS, row.count(1));
            String q = name(OWNERS, row.count(1));
            String r = name(ROOMS, row.count(2));
            text.append(any(o + " goes " + r, o + " goes " + r, o + " goes " + r, o + " sells " + r + " " + q,
                o + " lets " + q, o + " bars " + q, o + " dies", o + " wills " + q, "shuts " + RANDOM.nextInt(8),
                "opens " + RANDOM.nextInt(8), "burns " + r, "minute " + (1 + RANDOM.nextInt(60)), "minute 1")).append(';');
        }
        return text.toString();
    }

    private static String sentence() {
        StringBuilder text = new StringBuilder();
        cond(text, RANDOM.nextInt(5) == 0 ? 9 : 3);
        return text.toString();
    }

    private static void cond(StringBuilder text, int left) {
        one(text, left);
        for (int i = RANDOM.nextInt(3); i > 0; i--) {
            text.append(any(" or ", " and "));
            one(text, left);
        }
    }

    private static void one(StringBuilder text, int left) {
        int sort = RANDOM.nextInt(9);
        if (sort < 4 && left > 1) {
            text.append("not ");
            one(text, left - 1);
        } else if (sort == 4 && left > 1) {
            text.append('(');
            cond(text, left - 1);
            text.append(')');
        } else if (sort == 5) {
            text.append("of ").append(name(OWNERS, row.count(1)));
        } else if (sort == 6) {
            text.append("in ").append(name(HOUSES, row.count(0)));
        } else if (sort == 7) {
            text.append(any("people", "doors", "worth", "number")).append(any("<", "=", " > ")).append(RANDOM.nextInt(8));
        } else {
            text.append(any("burnt", "free"));
        }
    }

    private static final String[] PARTS = ("house owner room door robe at leave heir likes goes sells lets bars dies wills"
        + " shuts opens burns minute or and not burnt free of in people doors worth number o ann h hall r kit zz ; ; < = > ( )"
        + " . 0 00 1 9 10 19 20 60 61 99 100 x1 1x abcdefg abcdefgh A !").split(" ");

    /** A text with one thing about it spoilt, or blown up with blanks to about as many bytes as it may have. */
    private static String spoilt(String text, int most) {
        StringBuilder all = new StringBuilder(text);
        int at = RANDOM.nextInt(all.length() + 1);
        switch (RANDOM.nextInt(9)) {
            case 0:
                all.insert(at, " " + any(PARTS) + " ");
                break;
            case 1:
                all.insert(at, (char) RANDOM.nextInt(256));
                break;
            case 2:
                all.setLength(at);
                break;
            case 3:
                all.delete(at, Math.min(all.length(), at + 1 + RANDOM.nextInt(8)));
                break;
            case 4:
                int line = all.indexOf(";", at) + 1;
                int next = all.indexOf(";", line) + 1;
                all.append(next > line ? all.substring(line, next) : "");
                break;
            case 5:
                all.insert(at, " ".repeat(Math.max(0, most - all.length() - 2 + RANDOM.nextInt(5))));
                break;
            default:
                break;
        }
        while (all.length() > 940) {
            all.setLength(940);
        }
        return all.toString();
    }
}
