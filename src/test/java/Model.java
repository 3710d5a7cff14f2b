import java.util.ArrayDeque;
import java.util.ArrayList;
import java.util.Deque;
import java.util.HashMap;
import java.util.List;
import java.util.Map;
import java.util.NoSuchElementException;
import java.util.Set;
import java.util.TreeMap;
import java.util.TreeSet;
import java.util.function.IntPredicate;
import java.util.regex.Matcher;
import java.util.regex.Pattern;

/**
 * The document told once more with the Java library, as plainly as it can be and as unlike the class as it can be:
 * names are texts, sets are sets, what was is copied whole. ModelTest holds the class against it. Its methods bear
 * the names of the face, so that one call can be made on both.
 */
final class Model {
    private static final int NONE = -1;
    private static final Set<String> TOLD_WORDS = new TreeSet<>(List.of(("house owner room door robe at leave heir likes"
        + " goes sells lets bars dies wills shuts opens burns minute or and not burnt free of in people doors worth"
        + " number").split(" ")));

    private StringBuilder tape = new StringBuilder();
    private World world = new World();
    private final Deque<World> past = new ArrayDeque<>();
    private final World[] images = new World[2];
    private int fault;
    private List<Integer> steps = List.of();
    private int asked = NONE;
    private Map<Integer, Integer> prices;
    private Map<Integer, Integer> wanted = new HashMap<>();
    private int[] booked;

    // ---- what is so ----

    static final class Person {
        int at = NONE;
        boolean lives = true;
        int heir = NONE;
        int goings;
        final Set<Integer> lets = new TreeSet<>();
        final Map<Integer, Integer> likes = new TreeMap<>();

        Person copy() {
            Person other = new Person();
            other.at = at;
            other.lives = lives;
            other.heir = heir;
            other.goings = goings;
            other.lets.addAll(lets);
            other.likes.putAll(likes);
            return other;
        }

        int liking(int r) {
            return likes.getOrDefault(r, 0);
        }
    }

    static final class Place {
        int house;
        int owner;
        boolean burnt;

        Place copy() {
            Place other = new Place();
            other.house = house;
            other.owner = owner;
            other.burnt = burnt;
            return other;
        }
    }

    static final class Gate {
        int one;
        int other;
        boolean robe;
        boolean shut;

        Gate copy() {
            Gate copy = new Gate();
            copy.one = one;
            copy.other = other;
            copy.robe = robe;
            copy.shut = shut;
            return copy;
        }

        boolean joins(int r, int s) {
            return one == r && other == s || one == s && other == r;
        }
    }

    static final class World {
        final List<String> houses = new ArrayList<>();
        final List<String> owners = new ArrayList<>();
        final List<String> rooms = new ArrayList<>();
        final List<Person> people = new ArrayList<>();
        final List<Place> places = new ArrayList<>();
        final List<Gate> gates = new ArrayList<>();
        int minute;
        int sales;
        String sentence;

        World copy() {
            World other = new World();
            other.houses.addAll(houses);
            other.owners.addAll(owners);
            other.rooms.addAll(rooms);
            people.forEach(one -> other.people.add(one.copy()));
            places.forEach(one -> other.places.add(one.copy()));
            gates.forEach(one -> other.gates.add(one.copy()));
            other.minute = minute;
            other.sales = sales;
            other.sentence = sentence;
            return other;
        }

        boolean open(int r, int s) {
            return gates.stream().anyMatch(gate -> gate.joins(r, s) && !gate.shut);
        }

        boolean leave(int p, int r) {
            int host = places.get(r).owner;
            return host == NONE || host == p || people.get(host).lets.contains(p);
        }

        int whyNotGo(int p, int r) {
            Person one = people.get(p);
            if (!one.lives) {
                return 1;
            }
            if (places.get(r).burnt) {
                return 2;
            }
            if (one.at != NONE && !open(one.at, r)) {
                return 3;
            }
            return leave(p, r) ? 0 : 4;
        }

        int go(int p, int r) {
            int why = whyNotGo(p, r);
            if (why == 0) {
                people.get(p).at = r;
                people.get(p).goings++;
            }
            return why;
        }

        boolean bothLive(int p, int q) {
            return people.get(p).lives && people.get(q).lives;
        }

        int sell(int p, int r, int q) {
            int why = !bothLive(p, q) ? 1 : places.get(r).owner != p ? 2 : places.get(r).burnt ? 3 : 0;
            if (why == 0) {
                places.get(r).owner = q;
                sales++;
            }
            return why;
        }

        int let(int p, int q) {
            return !bothLive(p, q) ? 1 : people.get(p).lets.add(q) ? 0 : 2;
        }

        int bar(int p, int q) {
            return !bothLive(p, q) ? 1 : people.get(p).lets.remove(q) ? 0 : 2;
        }

        int will(int p, int q) {
            int why = !bothLive(p, q) ? 1 : people.get(p).heir == q ? 2 : 0;
            if (why == 0) {
                people.get(p).heir = q;
            }
            return why;
        }

        int successor(int p) {
            Set<Integer> seen = new TreeSet<>(Set.of(p));
            int q = people.get(p).heir;
            while (q != NONE && seen.add(q)) {
                if (people.get(q).lives) {
                    return q;
                }
                q = people.get(q).heir;
            }
            return NONE;
        }

        int die(int p) {
            Person one = people.get(p);
            if (!one.lives) {
                return 1;
            }
            int next = successor(p);
            places.stream().filter(place -> place.owner == p).forEach(place -> place.owner = next);
            one.lives = false;
            one.at = NONE;
            return 0;
        }

        int shut(int k, boolean on) {
            Gate gate = gates.get(k);
            int why = gate.robe ? 1 : gate.shut == on ? 2 : 0;
            gate.shut = why == 0 ? on : gate.shut;
            return why;
        }

        int burn(int r) {
            if (places.get(r).burnt) {
                return 1;
            }
            places.get(r).burnt = true;
            for (int p = 0; p < people.size(); p++) {
                if (people.get(p).at == r) {
                    die(p);
                }
            }
            return 0;
        }

        Set<Integer> burnt() {
            Set<Integer> all = new TreeSet<>();
            for (int r = 0; r < places.size(); r++) {
                if (places.get(r).burnt) {
                    all.add(r);
                }
            }
            return all;
        }

        Set<Integer> caughtFrom(Set<Integer> ahead) {
            Set<Integer> caught = new TreeSet<>();
            for (Gate gate : gates) {
                if (!gate.shut && ahead.contains(gate.one) != ahead.contains(gate.other)) {
                    caught.add(ahead.contains(gate.one) ? gate.other : gate.one);
                }
            }
            return caught;
        }

        boolean minutes(int n) {
            if (minute + n > 999) {
                return false;
            }
            for (int i = 0; i < n; i++) {
                caughtFrom(burnt()).forEach(this::burn);
                minute++;
            }
            return true;
        }

        void drawn(int n, int seed) {
            int[] x = {seed};
            for (int i = 0; i < n; i++) {
                for (int p = 0; p < people.size(); p++) {
                    if (people.get(p).lives) {
                        drawnDeed(x, p);
                    }
                }
                if (draw(x, 60) == 0) {
                    burn(draw(x, places.size()));
                }
                minutes(1);
            }
        }

        private void drawnDeed(int[] x, int p) {
            int deed = draw(x, 4);
            int r = deed == 0 || deed == 2 ? draw(x, places.size()) : NONE;
            int q = deed == 1 || deed == 2 ? draw(x, people.size()) : NONE;
            if (deed == 0) {
                go(p, r);
            } else if (deed == 1 && q != p) {
                let(p, q);
            } else if (deed == 2 && q != p) {
                sell(p, r, q);
            }
        }

        private static int draw(int[] x, int n) {
            x[0] = (int) ((long) x[0] * 1103515245L + 12345L);
            return (int) ((x[0] & 0xffffffffL) / 256 % n);
        }

        /** Rooms one can come to, with the least of the fewest ways to each; the first found is the least. */
        Map<Integer, List<Integer>> ways(int p, Set<Integer> letting) {
            Map<Integer, List<Integer>> found = new TreeMap<>();
            Person one = people.get(p);
            if (!one.lives) {
                return found;
            }
            Deque<List<Integer>> row = new ArrayDeque<>();
            row.add(List.of());
            if (one.at != NONE) {
                found.put(one.at, List.of());
            }
            while (!row.isEmpty()) {
                List<Integer> way = row.remove();
                int at = way.isEmpty() ? one.at : way.get(way.size() - 1);
                for (int r = 0; r < places.size(); r++) {
                    boolean entered = leave(p, r) || letting.contains(places.get(r).owner);
                    boolean opens = at == NONE || open(at, r);
                    if (entered && opens && !places.get(r).burnt && !found.containsKey(r)) {
                        List<Integer> longer = new ArrayList<>(way);
                        longer.add(r);
                        found.put(r, longer);
                        row.add(longer);
                    }
                }
            }
            return found;
        }
    }

    // ---- texts ----

    static final class Fault extends RuntimeException {
        private static final long serialVersionUID = 1L;
        final int place;
        final int kind;

        Fault(int place, int kind) {
            this.place = place;
            this.kind = kind;
        }
    }

    /** The tokens of a text, and one more for its end; where one is taken it must be what may come there. */
    static final class Tokens {
        final List<String> texts = new ArrayList<>();
        final List<Integer> places = new ArrayList<>();
        int next;

        Tokens(String text, int most) {
            Matcher matcher = Pattern.compile("[a-z0-9]+|[^ \\n]").matcher(text);
            while (matcher.find()) {
                if (matcher.start() < most) {
                    texts.add(matcher.group());
                    places.add(matcher.start());
                }
            }
            texts.add(text.length() > most ? "too long" : "");
            places.add(Math.min(text.length(), most));
        }

        String look() {
            return texts.get(next);
        }

        boolean ends() {
            return look().isEmpty();
        }

        Fault fault(int kind) {
            return new Fault(places.get(next), kind);
        }

        boolean is(String word) {
            return look().equals(word);
        }

        void take(String word) {
            if (!is(word)) {
                throw fault(1);
            }
            next++;
        }

        boolean isName() {
            return look().matches("[a-z]{1,7}") && !TOLD_WORDS.contains(look());
        }

        int name(List<String> among) {
            if (!isName()) {
                throw fault(1);
            }
            int found = among.indexOf(look());
            if (found < 0) {
                throw fault(3);
            }
            next++;
            return found;
        }

        int number(int low, int high) {
            if (!look().matches("[0-9]{1,2}")) {
                throw fault(1);
            }
            int number = Integer.parseInt(look());
            if (number < low || number > high) {
                throw fault(2);
            }
            next++;
            return number;
        }
    }

    private static String newName(Tokens in, World told) {
        if (!in.isName()) {
            throw in.fault(1);
        }
        String name = in.look();
        if (told.houses.contains(name) || told.owners.contains(name) || told.rooms.contains(name)) {
            throw in.fault(3);
        }
        in.next++;
        return name;
    }

    private static void refuseIf(boolean wrong, Tokens in, int back, int kind) {
        if (wrong) {
            in.next -= back;
            throw in.fault(kind);
        }
    }

    private static void terraceLine(Tokens in, World told) {
        String word = in.look();
        switch (word) {
            case "house" -> refuseIf(told.houses.size() == 6, in, 0, 4);
            case "owner" -> refuseIf(told.owners.size() == 6, in, 0, 4);
            case "room" -> refuseIf(told.rooms.size() == 12, in, 0, 4);
            case "door", "robe" -> refuseIf(told.gates.size() == 20, in, 0, 4);
            case "at", "leave", "heir", "likes" -> { }
            default -> throw in.fault(1);
        }
        in.next++;
        switch (word) {
            case "house" -> told.houses.add(newName(in, told));
            case "owner" -> {
                told.owners.add(newName(in, told));
                told.people.add(new Person());
            }
            case "room" -> {
                told.rooms.add(newName(in, told));
                Place place = new Place();
                place.house = in.name(told.houses);
                place.owner = in.name(told.owners);
                told.places.add(place);
            }
            case "door", "robe" -> {
                Gate gate = new Gate();
                gate.one = in.name(told.rooms);
                gate.other = in.name(told.rooms);
                gate.robe = word.equals("robe");
                refuseIf(gate.one == gate.other, in, 1, 3);
                refuseIf(told.gates.stream().anyMatch(old -> old.joins(gate.one, gate.other)), in, 1, 3);
                told.gates.add(gate);
            }
            case "at" -> {
                Person one = told.people.get(in.name(told.owners));
                refuseIf(one.at != NONE, in, 1, 3);
                one.at = in.name(told.rooms);
            }
            case "leave" -> {
                int p = in.name(told.owners);
                int q = in.name(told.owners);
                refuseIf(p == q || !told.people.get(p).lets.add(q), in, 1, 3);
            }
            case "heir" -> {
                int p = in.name(told.owners);
                refuseIf(told.people.get(p).heir != NONE, in, 1, 3);
                int q = in.name(told.owners);
                refuseIf(p == q, in, 1, 3);
                told.people.get(p).heir = q;
            }
            default -> {
                Person one = told.people.get(in.name(told.owners));
                int r = in.name(told.rooms);
                refuseIf(one.likes.containsKey(r), in, 1, 3);
                one.likes.put(r, in.number(1, 9));
            }
        }
    }

    /** A line as its word and numbers; an owner's line begins with him. */
    private static List<Object> bookLine(Tokens in, World told, int ahead) {
        List<Object> line = new ArrayList<>();
        if (in.isName()) {
            int p = in.name(told.owners);
            refuseIf(ahead == 40, in, 1, 4);
            String verb = in.look();
            line.add(verb);
            line.add(p);
            if (!List.of("goes", "sells", "lets", "bars", "dies", "wills").contains(verb)) {
                throw in.fault(1);
            }
            in.next++;
            if (verb.equals("goes") || verb.equals("sells")) {
                line.add(in.name(told.rooms));
            }
            if (!verb.equals("goes") && !verb.equals("dies")) {
                line.add(in.name(told.owners));
            }
            return line;
        }
        String word = in.look();
        if (!List.of("shuts", "opens", "burns", "minute").contains(word)) {
            throw in.fault(1);
        }
        refuseIf(ahead == 40, in, 0, 4);
        in.next++;
        line.add(word);
        line.add(word.equals("burns") ? in.name(told.rooms) : word.equals("minute") ? in.number(1, 60) : in.number(0, 19));
        return line;
    }

    private static int lineNumber(List<Object> line, int i) {
        return (Integer) line.get(i);
    }

    private static int whyWrong(World now, List<Object> line) {
        int a = lineNumber(line, 1);
        int b = line.size() > 2 ? lineNumber(line, 2) : NONE;
        int c = line.size() > 3 ? lineNumber(line, 3) : NONE;
        switch ((String) line.get(0)) {
            case "goes": return now.go(a, b);
            case "sells": return more(10, a == c ? 9 : now.sell(a, b, c));
            case "lets": return more(20, a == b ? 9 : now.let(a, b));
            case "bars": return more(30, a == b ? 9 : now.bar(a, b));
            case "wills": return more(40, a == b ? 9 : now.will(a, b));
            case "dies": return more(50, now.die(a));
            case "shuts": return more(60, a >= now.gates.size() ? 9 : now.shut(a, true));
            case "opens": return more(70, a >= now.gates.size() ? 9 : now.shut(a, false));
            case "burns": return more(80, now.burn(a));
            default: return now.minutes(a) ? 0 : 91;
        }
    }

    private static int more(int sort, int why) {
        return why == 0 ? 0 : sort + why;
    }

    /** Reads a SENTENCE; what it says of a world's room is asked of the predicate. */
    private static final class Saying {
        private final Tokens in;
        private final World now;
        private int ones;

        Saying(String text, World now) {
            in = new Tokens(text, 200);
            this.now = now;
        }

        IntPredicate whole() {
            IntPredicate all = cond(0);
            if (!in.ends()) {
                throw in.fault(1);
            }
            return all;
        }

        private IntPredicate cond(int within) {
            IntPredicate any = all(within);
            while (in.is("or")) {
                in.next++;
                any = any.or(all(within));
            }
            return any;
        }

        private IntPredicate all(int within) {
            IntPredicate every = one(within);
            while (in.is("and")) {
                in.next++;
                every = every.and(one(within));
            }
            return every;
        }

        private IntPredicate one(int within) {
            String word = in.look();
            if (!List.of("not", "(", "burnt", "free", "of", "in", "people", "doors", "worth", "number").contains(word)) {
                throw in.fault(1);
            }
            if (ones == 20 || within == 8) {
                throw in.fault(4);
            }
            ones++;
            in.next++;
            switch (word) {
                case "not":
                    return one(within + 1).negate();
                case "(":
                    IntPredicate inner = cond(within + 1);
                    in.take(")");
                    return inner;
                case "burnt":
                    return r -> now.places.get(r).burnt;
                case "free":
                    return r -> now.places.get(r).owner == NONE;
                case "of":
                    int p = in.name(now.owners);
                    return r -> now.places.get(r).owner == p;
                case "in":
                    int h = in.name(now.houses);
                    return r -> now.places.get(r).house == h;
                default:
                    return compared(word);
            }
        }

        private IntPredicate compared(String word) {
            String sign = in.look();
            if (!List.of("<", "=", ">").contains(sign)) {
                throw in.fault(1);
            }
            in.next++;
            int number = in.number(0, 99);
            return r -> {
                int measure = measure(word, r);
                return sign.equals("<") ? measure < number : sign.equals("=") ? measure == number : measure > number;
            };
        }

        private int measure(String word, int r) {
            switch (word) {
                case "people":
                    return (int) now.people.stream().filter(one -> one.at == r).count();
                case "doors":
                    return (int) now.gates.stream().filter(gate -> gate.one == r || gate.other == r).count();
                case "worth":
                    return now.people.stream().mapToInt(one -> one.liking(r)).max().orElse(0);
                default:
                    return r;
            }
        }
    }

    private String taken() {
        String text = tape.toString();
        tape = new StringBuilder();
        return text;
    }

    // ---- small helps ----

    private boolean isOwner(int p) {
        return p >= 0 && p < world.people.size();
    }

    private boolean isRoom(int r) {
        return r >= 0 && r < world.places.size();
    }

    private boolean isGate(int k) {
        return k >= 0 && k < world.gates.size();
    }

    private static int bits(Iterable<Integer> numbers) {
        int bits = 0;
        for (int number : numbers) {
            bits |= 1 << number;
        }
        return bits;
    }

    private static int bits(int many, IntPredicate taken) {
        int bits = 0;
        for (int i = 0; i < many; i++) {
            bits |= taken.test(i) ? 1 << i : 0;
        }
        return bits;
    }

    private static Set<Integer> set(int bits) {
        Set<Integer> numbers = new TreeSet<>();
        for (int i = 0; i < 31; i++) {
            if ((bits >> i & 1) == 1) {
                numbers.add(i);
            }
        }
        return numbers;
    }

    private interface Deed {
        int on(World now);
    }

    private int done(Deed deed) {
        World before = world.copy();
        int why = deed.on(world);
        if (why == 0) {
            keep(before);
        }
        return why;
    }

    private void keep(World before) {
        past.push(before);
        if (past.size() > 8) {
            past.removeLast();
        }
    }

    // ---- the face ----

    int feed(int a, int b, int c, int d, int e) {
        if (tape.length() + 20 > 940) {
            return NONE;
        }
        for (int number : new int[] {a, b, c, d, e}) {
            tape.append((char) (number >>> 24)).append((char) (number >>> 16 & 255));
            tape.append((char) (number >>> 8 & 255)).append((char) (number & 255));
        }
        return tape.length();
    }

    boolean end(int n) {
        boolean can = n >= 0 && n <= tape.length();
        if (can) {
            tape.setLength(n);
        }
        return can;
    }

    int terrace() {
        World told = new World();
        Tokens in = new Tokens(taken(), 900);
        int lines = 0;
        fault = 0;
        try {
            while (!in.ends()) {
                terraceLine(in, told);
                in.take(";");
                lines++;
            }
        } catch (Fault found) {
            fault = found.kind;
            return -1 - found.place;
        }
        world = told;
        past.clear();
        return lines;
    }

    int fault() {
        return fault;
    }

    int room(int r, int what) {
        if (!isRoom(r) || what < 0 || what > 4) {
            throw new NoSuchElementException();
        }
        Place place = world.places.get(r);
        switch (what) {
            case 0: return place.house;
            case 1: return place.owner;
            case 2: return place.burnt ? 1 : 0;
            case 3: return bits(world.people.size(), p -> world.people.get(p).at == r);
            default: return bits(world.gates.size(), k -> world.gates.get(k).one == r || world.gates.get(k).other == r);
        }
    }

    int owner(int p, int what) {
        if (!isOwner(p)) {
            return NONE;
        }
        Person one = world.people.get(p);
        switch (what) {
            case 0: return one.at;
            case 1: return one.lives ? 1 : 0;
            case 2: return bits(world.places.size(), r -> world.places.get(r).owner == p);
            case 3: return bits(one.lets);
            case 4: return one.heir;
            case 5: return one.goings;
            default: return NONE;
        }
    }

    int passage(int k, int what) {
        if (!isGate(k)) {
            return NONE;
        }
        Gate gate = world.gates.get(k);
        switch (what) {
            case 0: return gate.one;
            case 1: return gate.other;
            case 2: return gate.robe ? 1 : 0;
            case 3: return gate.shut ? 1 : 0;
            default: return NONE;
        }
    }

    int now(int what) {
        switch (what) {
            case 0: return world.minute;
            case 1: return bits(world.people.size(), p -> !world.people.get(p).lives);
            case 2: return bits(world.burnt());
            case 3: return bits(world.places.size(), r -> world.places.get(r).owner == NONE);
            case 4: return world.sales;
            case 5: return world.people.stream().mapToInt(one -> one.goings).sum();
            default: return NONE;
        }
    }

    int go(int p, int r) {
        return isOwner(p) && isRoom(r) ? done(now -> now.go(p, r)) : NONE;
    }

    boolean leave(int p) {
        if (!isOwner(p) || world.people.get(p).at == NONE) {
            return false;
        }
        keep(world.copy());
        world.people.get(p).at = NONE;
        return true;
    }

    int sell(int p, int r, int q) {
        return isOwner(p) && isOwner(q) && isRoom(r) && p != q ? done(now -> now.sell(p, r, q)) : NONE;
    }

    int let(int p, int q, int on) {
        if (!isOwner(p) || !isOwner(q) || p == q || on != 0 && on != 1) {
            return NONE;
        }
        return done(now -> on == 1 ? now.let(p, q) : now.bar(p, q));
    }

    int will(int p, int q) {
        return isOwner(p) && isOwner(q) && p != q ? done(now -> now.will(p, q)) : NONE;
    }

    int die(int p) {
        return isOwner(p) ? done(now -> now.die(p)) : NONE;
    }

    int shut(int k, int on) {
        return isGate(k) && (on == 0 || on == 1) ? done(now -> now.shut(k, on == 1)) : NONE;
    }

    int burn(int r) {
        return isRoom(r) ? done(now -> now.burn(r)) : NONE;
    }

    int minutes(int n) {
        boolean can = n >= 1 && n <= 60 && done(now -> now.minutes(n) ? 0 : 1) == 0;
        return can ? world.minute : NONE;
    }

    int undo() {
        if (past.isEmpty()) {
            return NONE;
        }
        String sentence = world.sentence;
        world = past.pop();
        world.sentence = sentence;
        return past.size();
    }

    int way(int p, int r) {
        List<Integer> way = isOwner(p) && isRoom(r) ? world.ways(p, Set.of()).get(r) : null;
        if (way == null) {
            return NONE;
        }
        steps = way;
        return way.size();
    }

    int step(int i) {
        return i >= 0 && i < steps.size() ? steps.get(i) : NONE;
    }

    int barred(int p) {
        if (!isOwner(p)) {
            return NONE;
        }
        Map<Integer, List<Integer>> ways = world.ways(p, Set.of());
        return bits(world.places.size(), r -> !ways.containsKey(r));
    }

    int asks(int p, int r) {
        if (!isOwner(p) || !isRoom(r)) {
            return NONE;
        }
        for (int many = 0; many <= 6; many++) {
            for (int who = 0; who < 1 << world.people.size(); who++) {
                if (Integer.bitCount(who) == many && world.ways(p, set(who)).containsKey(r)) {
                    asked = who;
                    return many;
                }
            }
        }
        return NONE;
    }

    int asked() {
        return asked;
    }

    int through(int p, int r) {
        List<Integer> way = isOwner(p) && isRoom(r) ? world.ways(p, Set.of()).get(r) : null;
        if (way == null) {
            return NONE;
        }
        Set<Integer> met = new TreeSet<>();
        way.forEach(s -> met.add(world.places.get(s).owner));
        met.remove(NONE);
        met.remove(p);
        return bits(met);
    }

    private Set<Integer> burntIn(int n) {
        Set<Integer> burnt = world.burnt();
        for (int i = 0; i < n; i++) {
            burnt.addAll(world.caughtFrom(burnt));
        }
        return burnt;
    }

    int fire(int r) {
        for (int n = 0; isRoom(r) && n <= 12; n++) {
            if (burntIn(n).contains(r)) {
                return n;
            }
        }
        return NONE;
    }

    int spread(int n) {
        return n >= 0 && n <= 60 ? bits(burntIn(n)) : NONE;
    }

    int cut(int r) {
        if (!isRoom(r)) {
            return NONE;
        }
        List<Gate> doors = world.gates.stream().filter(gate -> !gate.robe && !gate.shut).toList();
        int fewest = NONE;
        for (int many = 0; many <= doors.size() && fewest == NONE; many++) {
            fewest = canBeCut(doors, 0, many, r) ? many : NONE;
        }
        return fewest;
    }

    private boolean canBeCut(List<Gate> doors, int from, int many, int r) {
        if (many == 0) {
            return !burntIn(12).contains(r);
        }
        for (int i = from; i <= doors.size() - many; i++) {
            doors.get(i).shut = true;
            boolean safe = canBeCut(doors, i + 1, many - 1, r);
            doors.get(i).shut = false;
            if (safe) {
                return true;
            }
        }
        return false;
    }

    private int rings;

    /** Who has what, one ring after another being taken out: of whom points nobody is in two rings. */
    private Map<Integer, Integer> exchanged() {
        Map<Integer, Integer> brought = new TreeMap<>();
        for (int r = world.places.size() - 1; r >= 0; r--) {
            Place place = world.places.get(r);
            if (place.owner != NONE && !place.burnt) {
                brought.put(place.owner, r);
            }
        }
        Map<Integer, Integer> have = new TreeMap<>();
        rings = 0;
        while (!brought.isEmpty()) {
            int p = brought.keySet().iterator().next();
            for (int i = 0; i < 6; i++) {
                p = pointed(brought, p);
            }
            List<Integer> ring = new ArrayList<>();
            for (int q = p; !ring.contains(q); q = pointed(brought, q)) {
                ring.add(q);
                have.put(q, brought.get(pointed(brought, q)));
            }
            rings += ring.size() > 1 ? 1 : 0;
            brought.keySet().removeAll(ring);
        }
        return have;
    }

    private int pointed(Map<Integer, Integer> brought, int p) {
        int best = p;
        for (int r = 0; r < world.places.size(); r++) {
            int q = world.places.get(r).owner;
            boolean there = brought.containsKey(q) && brought.get(q) == r;
            if (there && world.people.get(p).liking(r) > world.people.get(p).liking(brought.get(best))) {
                best = q;
            }
        }
        return best;
    }

    int exchange(int p) {
        return isOwner(p) ? exchanged().getOrDefault(p, NONE) : NONE;
    }

    int rings() {
        exchanged();
        return rings;
    }

    int prices() {
        prices = new HashMap<>();
        wanted = new HashMap<>();
        for (int round = 1; ; round++) {
            Map<Integer, Integer> wanting = new TreeMap<>();
            for (int p = 0; p < world.people.size(); p++) {
                int r = world.people.get(p).lives ? wish(p) : NONE;
                wanted.put(p, r);
                wanting.merge(r, 1, Integer::sum);
            }
            wanting.remove(NONE);
            wanting.values().removeIf(many -> many < 2);
            wanting.keySet().forEach(r -> prices.merge(r, 1, Integer::sum));
            if (wanting.isEmpty() || round == 99) {
                return round;
            }
        }
    }

    private int wish(int p) {
        int best = NONE;
        int most = -1;
        for (int r = 0; r < world.places.size(); r++) {
            int liking = world.people.get(p).liking(r);
            int gain = liking - prices.getOrDefault(r, 0);
            if (liking > 0 && !world.places.get(r).burnt && gain > most) {
                best = r;
                most = gain;
            }
        }
        return best;
    }

    int price(int r) {
        return prices == null || !isRoom(r) ? NONE : prices.getOrDefault(r, 0);
    }

    int wants(int p) {
        return prices == null || !isOwner(p) ? NONE : wanted.getOrDefault(p, NONE);
    }

    int walked() {
        String row = taken();
        boolean told = row.length() >= 1 && row.length() <= 20 && row.chars().allMatch(this::isRoom);
        return told ? bits(world.people.size(), p -> canHaveWalked(world.copy(), p, row)) : NONE;
    }

    private static boolean canHaveWalked(World now, int p, String row) {
        now.people.get(p).at = NONE;
        return row.chars().allMatch(r -> now.go(p, r) == 0);
    }

    int corridor(int p) {
        String order = taken();
        boolean told = order.length() >= 1 && order.length() <= 6 && order.chars().allMatch(this::isOwner)
            && order.chars().distinct().count() == order.length() && order.indexOf(p) < 0;
        if (!told || !isOwner(p)) {
            return NONE;
        }
        World then = world.copy();
        order.chars().forEach(then::die);
        return bits(then.places.size(), r -> then.places.get(r).owner == p);
    }

    int heir(int p) {
        return isOwner(p) && world.people.get(p).lives ? world.successor(p) : NONE;
    }

    int guests(int h) {
        if (h < 0 || h >= world.houses.size()) {
            return NONE;
        }
        List<Integer> owned = new ArrayList<>();
        for (int r = 0; r < world.places.size(); r++) {
            if (world.places.get(r).house == h && world.places.get(r).owner != NONE) {
                owned.add(r);
            }
        }
        return bits(world.people.size(), p -> world.people.get(p).lives
            && owned.stream().allMatch(r -> world.places.get(r).owner != p && world.leave(p, r)));
    }

    int mixed() {
        return bits(world.houses.size(), h -> {
            List<Place> there = world.places.stream().filter(place -> place.house == h).toList();
            long unlike = there.stream().map(place -> place.owner).distinct().count();
            return unlike > 1 || unlike == 1 && there.get(0).owner == NONE;
        });
    }

    int drawn(int n, int seed) {
        if (n < 1 || n > 60 || world.places.isEmpty() || world.minute + n > 999) {
            return NONE;
        }
        keep(world.copy());
        world.drawn(n, seed);
        return world.minute;
    }

    int odds(int r, int n, int seed) {
        if (!isRoom(r) || n < 1 || n > 40 || world.minute + 20 > 999) {
            return NONE;
        }
        int burnt = 0;
        for (int i = 0; i < n; i++) {
            World then = world.copy();
            then.drawn(20, seed + i);
            burnt += then.places.get(r).burnt ? 1 : 0;
        }
        return burnt;
    }

    int book(int lives) {
        if (lives != 0 && lives != 1) {
            return -1000;
        }
        Tokens in = new Tokens(taken(), 400);
        List<List<Object>> lines = new ArrayList<>();
        fault = 0;
        try {
            while (!in.ends()) {
                List<Object> line = bookLine(in, world, lines.size());
                in.take(";");
                lines.add(line);
            }
        } catch (Fault found) {
            fault = found.kind;
            return -2 - found.place;
        }
        World then = world.copy();
        int deadBefore = now(1);
        int why = 0;
        int right = 0;
        while (right < lines.size() && why == 0) {
            why = whyWrong(then, lines.get(right));
            right += why == 0 ? 1 : 0;
        }
        int dead = bits(then.people.size(), p -> !then.people.get(p).lives);
        booked = new int[] {why, right, then.minute, dead & ~deadBefore};
        if (lives == 1) {
            keep(world);
            world = then;
        }
        return why == 0 ? NONE : right;
    }

    int booked(int what) {
        return booked == null || what < 0 || what > 3 ? NONE : booked[what];
    }

    int sentence() {
        String text = taken();
        Saying saying = new Saying(text, world);
        fault = 0;
        try {
            saying.whole();
        } catch (Fault found) {
            fault = found.kind;
            return -1 - found.place;
        }
        world.sentence = text;
        return saying.ones;
    }

    int said(int k) {
        if (world.sentence == null) {
            return NONE;
        }
        IntPredicate whole = new Saying(world.sentence, world).whole();
        List<Integer> rooms = new ArrayList<>(set(bits(world.places.size(), whole)));
        return k == NONE ? rooms.size() : k >= 0 && k < rooms.size() ? rooms.get(k) : NONE;
    }

    boolean image(int k) {
        if (k != 0 && k != 1) {
            return false;
        }
        images[k] = world.copy();
        return true;
    }

    boolean restore(int k) {
        if (k != 0 && k != 1 || images[k] == null) {
            return false;
        }
        world = images[k].copy();
        past.clear();
        return true;
    }

    int count(int what) {
        switch (what) {
            case 0: return world.houses.size();
            case 1: return world.owners.size();
            case 2: return world.rooms.size();
            case 3: return world.gates.size();
            case 4: return (int) world.gates.stream().filter(gate -> gate.robe).count();
            case 5: return tape.length();
            default: return NONE;
        }
    }
}
