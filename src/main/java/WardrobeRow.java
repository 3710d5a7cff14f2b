import java.util.Arrays;
import java.util.NoSuchElementException;

/**
 * A terrace of houses whose rooms have owners: who goes where by whose leave, what deaths, sales and
 * fires make of it, and what may be asked about that. The document numbers its promises; each public
 * method keeps one of them. Sets of rooms, owners, houses and passages are ints, one bit a number.
 */
public final class WardrobeRow {
    public static final int NONE = -1;

    private static final int MOST_HOUSES = 6;
    private static final int MOST_OWNERS = 6;
    private static final int MOST_ROOMS = 12;
    private static final int MOST_PASSAGES = 20;

    private static final int TAPE_BYTES = 940;
    private static final int FEED_BYTES = 20;
    private static final int TERRACE_BYTES = 900;
    private static final int BOOK_BYTES = 400;
    private static final int SENTENCE_BYTES = 200;
    private static final int BOOK_LINES = 40;
    private static final int MOST_ONES = 20;
    private static final int DEEPEST_ONE = 8;

    private static final int LAST_MINUTE = 999;
    private static final int MOST_MINUTES = 60;
    private static final int ODDS_MINUTES = 20;
    private static final int MOST_SEEDS = 40;
    private static final int MOST_UNDONE = 8;
    private static final int MOST_ROUNDS = 99;
    private static final int MOST_WALKED = 20;
    private static final int MOST_DEATHS = 6;
    private static final int IMAGES = 2;
    private static final int NO_SUCH_LIVES = -1000;

    private static final int NO_TOKEN = 1;
    private static final int BAD_NUMBER = 2;
    private static final int BAD_NAME = 3;
    private static final int TOO_MANY = 4;

    private static final int HOUSES = 0;
    private static final int OWNERS = 1;
    private static final int ROOMS = 2;
    private static final int SORTS = 3;

    /** The words that are no NAMES, each as wide as the longest WORD may be, in the order of the W_ numbers. */
    private static final String TERRACE_WORDS = "house  owner  room   door   robe   at     leave  heir   likes  ";
    private static final String BOOK_WORDS = "goes   sells  lets   bars   dies   wills  shuts  opens  burns  minute ";
    private static final String SENTENCE_WORDS =
        "or     and    not    burnt  free   of     in     people doors  worth  number ";
    private static final int WORD_LETTERS = 7;
    private static final int NUMBER_DIGITS = 2;

    private static final int W_HOUSE = 0;
    private static final int W_OWNER = 1;
    private static final int W_ROOM = 2;
    private static final int W_DOOR = 3;
    private static final int W_ROBE = 4;
    private static final int W_AT = 5;
    private static final int W_LEAVE = 6;
    private static final int W_HEIR = 7;
    private static final int W_LIKES = 8;
    private static final int W_GOES = 9;
    private static final int W_SELLS = 10;
    private static final int W_LETS = 11;
    private static final int W_BARS = 12;
    private static final int W_DIES = 13;
    private static final int W_WILLS = 14;
    private static final int W_SHUTS = 15;
    private static final int W_OPENS = 16;
    private static final int W_BURNS = 17;
    private static final int W_MINUTE = 18;
    private static final int W_OR = 19;
    private static final int W_AND = 20;
    private static final int W_NOT = 21;
    private static final int W_BURNT = 22;
    private static final int W_FREE = 23;
    private static final int W_OF = 24;
    private static final int W_IN = 25;
    private static final int W_PEOPLE = 26;
    private static final int W_DOORS = 27;
    private static final int W_WORTH = 28;
    private static final int W_NUMBER = 29;
    private static final int WORDS = 30;

    private final Tape tape = new Tape();
    private final Terrace terrace = new Terrace();
    private final Deeds deeds = new Deeds();
    private final Deeds spare = new Deeds();
    private final Past past = new Past();
    private final Sentence sentence = new Sentence();
    private final Sentence readSentence = new Sentence();
    private final TerraceReader terraceReader = new TerraceReader();
    private final Book book = new Book();
    private final Ways ways = new Ways();
    private final Fires fires = new Fires();
    private final Market market = new Market();
    private final Draws draws = new Draws();
    private final Terrace[] imageTerraces = new Terrace[IMAGES];
    private final Deeds[] imageDeeds = new Deeds[IMAGES];
    private final Sentence[] imageSentences = new Sentence[IMAGES];
    private int imagesKept;

    public WardrobeRow() {
        for (int k = 0; k < IMAGES; k++) {
            imageTerraces[k] = new Terrace();
            imageDeeds[k] = new Deeds();
            imageSentences[k] = new Sentence();
        }
    }

    // ---- the tape and the TERRACE ----

    public int feed(int a, int b, int c, int d, int e) {
        if (tape.length + FEED_BYTES > TAPE_BYTES) {
            return NONE;
        }
        tape.append(a);
        tape.append(b);
        tape.append(c);
        tape.append(d);
        tape.append(e);
        return tape.length;
    }

    public boolean end(int n) {
        if (n < 0 || n > tape.length) {
            return false;
        }
        tape.length = n;
        return true;
    }

    public int terrace() {
        int lines = terraceReader.readText(tape);
        tape.length = 0;
        if (lines < 0) {
            return -1 - tape.faultPlace;
        }
        terrace.copyFrom(terraceReader.told);
        deeds.copyFrom(terraceReader.first);
        sentence.forget();
        past.forget();
        return lines;
    }

    public int fault() {
        return tape.faultKind;
    }

    // ---- what is so ----

    public int room(int r, int what) throws NoSuchElementException {
        if (!isRoom(r) || what < 0 || what > 4) {
            throw new NoSuchElementException("no such room, or nothing such of a room");
        }
        switch (what) {
            case 0:
                return terrace.houseOf[r];
            case 1:
                return deeds.ownerOf[r];
            case 2:
                return has(deeds.burnt, r) ? 1 : 0;
            case 3:
                return deeds.peopleIn(r);
            default:
                return terrace.passagesOf(r);
        }
    }

    public int owner(int p, int what) {
        if (!isOwner(p)) {
            return NONE;
        }
        switch (what) {
            case 0:
                return deeds.roomOf[p];
            case 1:
                return deeds.lives(p) ? 1 : 0;
            case 2:
                return deeds.roomsOf(p) & terrace.allRooms();
            case 3:
                return deeds.letBy[p];
            case 4:
                return deeds.heirOf[p];
            case 5:
                return deeds.goingsOf[p];
            default:
                return NONE;
        }
    }

    public int passage(int k, int what) {
        if (!isPassage(k)) {
            return NONE;
        }
        switch (what) {
            case 0:
                return terrace.oneEnd[k];
            case 1:
                return terrace.otherEnd[k];
            case 2:
                return has(terrace.robes, k) ? 1 : 0;
            case 3:
                return has(deeds.shutDoors, k) ? 1 : 0;
            default:
                return NONE;
        }
    }

    public int now(int what) {
        switch (what) {
            case 0:
                return deeds.minute;
            case 1:
                return deeds.dead;
            case 2:
                return deeds.burnt;
            case 3:
                return deeds.roomsOf(NONE) & terrace.allRooms();
            case 4:
                return deeds.sales;
            case 5:
                return deeds.allGoings();
            default:
                return NONE;
        }
    }

    public int count(int what) {
        switch (what) {
            case 0:
                return terrace.manyOf(HOUSES);
            case 1:
                return terrace.manyOf(OWNERS);
            case 2:
                return terrace.manyOf(ROOMS);
            case 3:
                return terrace.passages;
            case 4:
                return Integer.bitCount(terrace.robes);
            case 5:
                return tape.length;
            default:
                return NONE;
        }
    }

    // ---- deeds ----

    public int go(int p, int r) {
        if (!isOwner(p) || !isRoom(r)) {
            return NONE;
        }
        past.prepare(deeds);
        return keptIfDone(deeds.goTo(terrace, p, r));
    }

    public boolean leave(int p) {
        if (!isOwner(p) || deeds.roomOf[p] == NONE) {
            return false;
        }
        past.prepare(deeds);
        deeds.roomOf[p] = NONE;
        past.confirm();
        return true;
    }

    public int sell(int p, int r, int q) {
        if (!areTwoOwners(p, q) || !isRoom(r)) {
            return NONE;
        }
        past.prepare(deeds);
        return keptIfDone(deeds.sellTo(p, r, q));
    }

    public int let(int p, int q, int on) {
        if (!areTwoOwners(p, q) || !isSwitch(on)) {
            return NONE;
        }
        past.prepare(deeds);
        return keptIfDone(deeds.setLeave(p, q, on));
    }

    public int will(int p, int q) {
        if (!areTwoOwners(p, q)) {
            return NONE;
        }
        past.prepare(deeds);
        return keptIfDone(deeds.willTo(p, q));
    }

    public int die(int p) {
        if (!isOwner(p)) {
            return NONE;
        }
        past.prepare(deeds);
        return keptIfDone(deeds.endLife(p));
    }

    public int shut(int k, int on) {
        if (!isPassage(k) || !isSwitch(on)) {
            return NONE;
        }
        past.prepare(deeds);
        return keptIfDone(deeds.setShut(terrace, k, on));
    }

    public int burn(int r) {
        if (!isRoom(r)) {
            return NONE;
        }
        past.prepare(deeds);
        return keptIfDone(deeds.setFire(r));
    }

    public int minutes(int n) {
        if (n < 1 || n > MOST_MINUTES) {
            return NONE;
        }
        past.prepare(deeds);
        int why = keptIfDone(deeds.passMinutes(terrace, n));
        return why == 0 ? deeds.minute : NONE;
    }

    public int undo() {
        return past.takeBack(deeds);
    }

    public int drawn(int n, int seed) {
        boolean asTold = n >= 1 && n <= MOST_MINUTES && terrace.manyOf(ROOMS) > 0;
        if (!asTold || deeds.minute + n > LAST_MINUTE) {
            return NONE;
        }
        past.prepare(deeds);
        draws.liveMinutes(terrace, deeds, n, seed);
        past.confirm();
        return deeds.minute;
    }

    public int odds(int r, int n, int seed) {
        boolean asTold = isRoom(r) && n >= 1 && n <= MOST_SEEDS;
        if (!asTold || deeds.minute + ODDS_MINUTES > LAST_MINUTE) {
            return NONE;
        }
        int burnt = 0;
        for (int i = 0; i < n; i++) {
            spare.copyFrom(deeds);
            draws.liveMinutes(terrace, spare, ODDS_MINUTES, seed + i);
            if (has(spare.burnt, r)) {
                burnt++;
            }
        }
        return burnt;
    }

    // ---- ways by leave ----

    public int way(int p, int r) {
        if (!isOwner(p) || !isRoom(r)) {
            return NONE;
        }
        int goings = ways.find(terrace, deeds, p, r);
        if (goings >= 0) {
            ways.tellSteps(goings);
        }
        return goings;
    }

    public int step(int i) {
        return isBelow(i, ways.told) ? ways.steps[i] : NONE;
    }

    public int barred(int p) {
        return isOwner(p) ? terrace.allRooms() & ~ways.reach(terrace, deeds, p, 0) : NONE;
    }

    public int asks(int p, int r) {
        return isOwner(p) && isRoom(r) ? ways.fewestAsked(terrace, deeds, p, r) : NONE;
    }

    public int asked() {
        return ways.toldAsked;
    }

    public int through(int p, int r) {
        if (!isOwner(p) || !isRoom(r)) {
            return NONE;
        }
        int goings = ways.find(terrace, deeds, p, r);
        return goings < 0 ? NONE : ways.ownersMet(deeds, p, goings);
    }

    public int walked() {
        int who = isRowOfRooms() ? whoCanHaveWalked() : NONE;
        tape.length = 0;
        return who;
    }

    private boolean isRowOfRooms() {
        boolean asTold = tape.length >= 1 && tape.length <= MOST_WALKED;
        for (int i = 0; asTold && i < tape.length; i++) {
            asTold = isRoom(tape.byteAt(i));
        }
        return asTold;
    }

    private int whoCanHaveWalked() {
        int who = 0;
        for (int p = 0; p < terrace.manyOf(OWNERS); p++) {
            who |= canHaveWalked(p) ? bit(p) : 0;
        }
        return who;
    }

    private boolean canHaveWalked(int p) {
        if (!deeds.lives(p)) {
            return false;
        }
        int entered = ways.enterable(terrace, deeds, p, 0);
        boolean walks = has(entered, tape.byteAt(0));
        for (int i = 1; walks && i < tape.length; i++) {
            int around = terrace.around(bit(tape.byteAt(i - 1)), deeds.shutDoors);
            walks = has(around & entered, tape.byteAt(i));
        }
        return walks;
    }

    // ---- fires ----

    public int fire(int r) {
        return isRoom(r) ? fires.minutesTill(terrace, deeds, r) : NONE;
    }

    public int spread(int n) {
        return n >= 0 && n <= MOST_MINUTES ? fires.burntIn(terrace, deeds, n) : NONE;
    }

    public int cut(int r) {
        return isRoom(r) ? fires.fewestDoors(terrace, deeds, r) : NONE;
    }

    // ---- exchanges and prices ----

    public int exchange(int p) {
        if (!isOwner(p)) {
            return NONE;
        }
        market.trade(terrace, deeds);
        return market.gets[p];
    }

    public int rings() {
        market.trade(terrace, deeds);
        return market.ringsOfMore;
    }

    public int prices() {
        return market.findPrices(terrace, deeds);
    }

    public int price(int r) {
        return market.priced && isRoom(r) ? market.priceOf[r] : NONE;
    }

    public int wants(int p) {
        return market.priced && isOwner(p) ? market.wantedBy[p] : NONE;
    }

    // ---- inheritance and houses ----

    public int corridor(int p) {
        boolean asTold = tape.length >= 1 && tape.length <= MOST_DEATHS;
        int rooms = asTold && isOwner(p) ? roomsAfterDeaths(p) : NONE;
        tape.length = 0;
        return rooms;
    }

    private int roomsAfterDeaths(int p) {
        int told = bit(p);
        spare.copyFrom(deeds);
        for (int i = 0; i < tape.length; i++) {
            int q = tape.byteAt(i);
            if (!isOwner(q) || has(told, q)) {
                return NONE;
            }
            told |= bit(q);
            spare.endLife(q);
        }
        return spare.roomsOf(p) & terrace.allRooms();
    }

    public int heir(int p) {
        return isOwner(p) && deeds.lives(p) ? deeds.successorOf(p) : NONE;
    }

    public int guests(int h) {
        if (!isBelow(h, terrace.manyOf(HOUSES))) {
            return NONE;
        }
        int hosts = hostsIn(h);
        int who = 0;
        for (int p = 0; p < terrace.manyOf(OWNERS); p++) {
            if (deeds.lives(p) && !has(hosts, p) && isLetByAll(p, hosts)) {
                who |= bit(p);
            }
        }
        return who;
    }

    private int hostsIn(int h) {
        int hosts = 0;
        for (int r = 0; r < terrace.manyOf(ROOMS); r++) {
            if (terrace.houseOf[r] == h && deeds.ownerOf[r] != NONE) {
                hosts |= bit(deeds.ownerOf[r]);
            }
        }
        return hosts;
    }

    private boolean isLetByAll(int p, int hosts) {
        for (int q = 0; q < MOST_OWNERS; q++) {
            if (has(hosts, q) && !has(deeds.letBy[q], p)) {
                return false;
            }
        }
        return true;
    }

    public int mixed() {
        int houses = 0;
        for (int h = 0; h < terrace.manyOf(HOUSES); h++) {
            houses |= isMixed(terrace.roomsIn(h)) ? bit(h) : 0;
        }
        return houses;
    }

    private boolean isMixed(int rooms) {
        boolean oneOwnsAll = false;
        for (int p = 0; p < terrace.manyOf(OWNERS); p++) {
            oneOwnsAll |= (rooms & ~deeds.roomsOf(p)) == 0;
        }
        return rooms != 0 && !oneOwnsAll;
    }

    // ---- books and sentences ----

    public int book(int lives) {
        if (!isSwitch(lives)) {
            return NO_SUCH_LIVES;
        }
        boolean read = book.readText(tape, terrace);
        tape.length = 0;
        if (!read) {
            return -2 - tape.faultPlace;
        }
        if (lives == 0) {
            spare.copyFrom(deeds);
            return book.live(terrace, spare);
        }
        past.prepare(deeds);
        past.confirm();
        return book.live(terrace, deeds);
    }

    public int booked(int what) {
        if (!book.judged) {
            return NONE;
        }
        switch (what) {
            case 0:
                return book.why;
            case 1:
                return book.rightLines;
            case 2:
                return book.minuteThen;
            case 3:
                return book.died;
            default:
                return NONE;
        }
    }

    public int sentence() {
        boolean read = readSentence.readText(tape, terrace);
        tape.length = 0;
        if (!read) {
            return -1 - tape.faultPlace;
        }
        sentence.copyFrom(readSentence);
        return sentence.ones;
    }

    public int said(int k) {
        if (sentence.ones == 0) {
            return NONE;
        }
        int rooms = sentence.roomsSaid(terrace, deeds);
        if (k == NONE) {
            return Integer.bitCount(rooms);
        }
        int ahead = 0;
        for (int r = 0; r < MOST_ROOMS; r++) {
            if (has(rooms, r)) {
                if (ahead == k) {
                    return r;
                }
                ahead++;
            }
        }
        return NONE;
    }

    // ---- images ----

    public boolean image(int k) {
        if (!isBelow(k, IMAGES)) {
            return false;
        }
        imageTerraces[k].copyFrom(terrace);
        imageDeeds[k].copyFrom(deeds);
        imageSentences[k].copyFrom(sentence);
        imagesKept |= bit(k);
        return true;
    }

    public boolean restore(int k) {
        if (!isBelow(k, IMAGES) || !has(imagesKept, k)) {
            return false;
        }
        terrace.copyFrom(imageTerraces[k]);
        deeds.copyFrom(imageDeeds[k]);
        sentence.copyFrom(imageSentences[k]);
        past.forget();
        return true;
    }

    // ---- small helps ----

    private boolean isRoom(int r) {
        return isBelow(r, terrace.manyOf(ROOMS));
    }

    private boolean isOwner(int p) {
        return isBelow(p, terrace.manyOf(OWNERS));
    }

    private boolean isPassage(int k) {
        return isBelow(k, terrace.passages);
    }

    private boolean areTwoOwners(int p, int q) {
        return isOwner(p) && isOwner(q) && p != q;
    }

    private static boolean isSwitch(int on) {
        return on == 0 || on == 1;
    }

    private int keptIfDone(int why) {
        if (why == 0) {
            past.confirm();
        }
        return why;
    }

    private static boolean isBelow(int i, int most) {
        return i >= 0 && i < most;
    }

    private static int bit(int i) {
        return 1 << i;
    }

    private static boolean has(int bits, int i) {
        return (bits >> i & 1) != 0;
    }

    /** The bytes fed so far, and a reader that walks along them token by token until the first FAULT. */
    private static final class Tape {
        static final int END = 0;
        static final int WRONG = 1;
        static final int KEYWORD = 2;
        static final int NAME = 3;
        static final int NUMBER = 4;
        static final int SIGN = 5;

        final byte[] bytes = new byte[TAPE_BYTES];
        int length;
        int faultKind;
        int faultPlace;
        /** The token that is looked at: its kind, where it begins, its number, sign or keyword, its NAME's code. */
        int kind;
        int start;
        int value;
        long code;
        private final long[] keywordCodes = new long[WORDS];
        private int limit;
        private int next;

        Tape() {
            for (int w = 0; w < WORDS; w++) {
                keywordCodes[w] = codeOfKeyword(w);
            }
        }

        private static long codeOfKeyword(int w) {
            String words = w < W_GOES ? TERRACE_WORDS : w < W_OR ? BOOK_WORDS : SENTENCE_WORDS;
            int base = (w < W_GOES ? w : w < W_OR ? w - W_GOES : w - W_OR) * WORD_LETTERS;
            long code = 0;
            for (int i = base; i < base + WORD_LETTERS && i < words.length(); i++) {
                int c = words.charAt(i);
                code = c == ' ' ? code : codeWith(code, c);
            }
            return code;
        }

        private static long codeWith(long code, int letter) {
            return code * 27 + (letter - 'a' + 1);
        }

        void append(int four) {
            for (int shift = 24; shift >= 0; shift -= 8) {
                if (length < bytes.length) {
                    bytes[length] = (byte) (four >> shift);
                    length++;
                }
            }
        }

        int byteAt(int i) {
            return i >= 0 && i < length && i < bytes.length ? bytes[i] & 255 : 0;
        }

        void begin(int mostBytes) {
            limit = mostBytes;
            next = 0;
            faultKind = 0;
            faultPlace = 0;
            advance();
        }

        void advance() {
            int stop = Math.min(length, limit);
            while (next < stop && isBlank(byteAt(next))) {
                next++;
            }
            value = NONE;
            if (next >= stop) {
                // a text that is too long has no end that may come, only the place where it is too long
                start = stop;
                kind = length > limit ? WRONG : END;
                return;
            }
            start = next;
            if (goesOn(byteAt(next))) {
                readRun();
            } else {
                readSign(byteAt(next));
            }
        }

        private void readRun() {
            int letters = 0;
            int digits = 0;
            int number = 0;
            code = 0;
            // a token that begins ahead of the limit is read whole, so only the tape's end stops it
            while (next < length && goesOn(byteAt(next))) {
                int c = byteAt(next);
                if (c >= 'a') {
                    letters++;
                    code = codeWith(code, c);
                } else {
                    digits++;
                    number = number * 10 + (c - '0');
                }
                next++;
            }
            if (digits == 0 && letters <= WORD_LETTERS) {
                value = keywordBy(code);
                kind = value == NONE ? NAME : KEYWORD;
            } else if (letters == 0 && digits <= NUMBER_DIGITS) {
                value = number;
                kind = NUMBER;
            } else {
                kind = WRONG;
            }
        }

        private void readSign(int c) {
            next++;
            boolean known = c == ';' || c == '<' || c == '=' || c == '>' || c == '(' || c == ')';
            kind = known ? SIGN : WRONG;
            value = c;
        }

        private int keywordBy(long wanted) {
            for (int w = 0; w < WORDS; w++) {
                if (keywordCodes[w] == wanted) {
                    return w;
                }
            }
            return NONE;
        }

        private static boolean isBlank(int c) {
            return c == 32 || c == 10;
        }

        private static boolean goesOn(int c) {
            return c >= 'a' && c <= 'z' || c >= '0' && c <= '9';
        }

        int keyword() {
            return kind == KEYWORD ? value : NONE;
        }

        boolean isSign(int c) {
            return kind == SIGN && value == c;
        }

        /** Always false, so that a reader can end with it. */
        boolean fail(int faultOf) {
            faultKind = faultOf;
            faultPlace = start;
            return false;
        }

        boolean takeSign(int c) {
            if (!isSign(c)) {
                return fail(NO_TOKEN);
            }
            advance();
            return true;
        }

        /** The number, not yet passed by; NONE with a FAULT. */
        int numberWithin(int low, int high) {
            if (kind != NUMBER) {
                fail(NO_TOKEN);
                return NONE;
            }
            if (value < low || value > high) {
                fail(BAD_NUMBER);
                return NONE;
            }
            return value;
        }

        /** The number of the NAME that is looked at, not yet passed by; NONE with a FAULT. */
        int toldName(Terrace terrace, int sort) {
            if (kind != NAME) {
                fail(NO_TOKEN);
                return NONE;
            }
            int found = terrace.indexOf(sort, code);
            if (found == NONE) {
                fail(BAD_NAME);
            }
            return found;
        }
    }

    /** What a TERRACE tells and no deed changes. */
    private static final class Terrace {
        final int[] many = new int[SORTS];
        final long[] houseNames = new long[MOST_HOUSES];
        final long[] ownerNames = new long[MOST_OWNERS];
        final long[] roomNames = new long[MOST_ROOMS];
        final int[] houseOf = new int[MOST_ROOMS];
        final int[] oneEnd = new int[MOST_PASSAGES];
        final int[] otherEnd = new int[MOST_PASSAGES];
        final int[] likings = new int[MOST_OWNERS * MOST_ROOMS];
        int passages;
        int robes;

        void forget() {
            Arrays.fill(many, 0);
            Arrays.fill(likings, 0);
            passages = 0;
            robes = 0;
        }

        void copyFrom(Terrace other) {
            System.arraycopy(other.many, 0, many, 0, SORTS);
            System.arraycopy(other.houseNames, 0, houseNames, 0, MOST_HOUSES);
            System.arraycopy(other.ownerNames, 0, ownerNames, 0, MOST_OWNERS);
            System.arraycopy(other.roomNames, 0, roomNames, 0, MOST_ROOMS);
            System.arraycopy(other.houseOf, 0, houseOf, 0, MOST_ROOMS);
            System.arraycopy(other.oneEnd, 0, oneEnd, 0, MOST_PASSAGES);
            System.arraycopy(other.otherEnd, 0, otherEnd, 0, MOST_PASSAGES);
            System.arraycopy(other.likings, 0, likings, 0, MOST_OWNERS * MOST_ROOMS);
            passages = other.passages;
            robes = other.robes;
        }

        int manyOf(int sort) {
            return isBelow(sort, SORTS) ? many[sort] : 0;
        }

        private long[] namesOf(int sort) {
            if (sort == HOUSES) {
                return houseNames;
            }
            return sort == OWNERS ? ownerNames : roomNames;
        }

        int indexOf(int sort, long code) {
            long[] names = namesOf(sort);
            int told = Math.min(manyOf(sort), names.length);
            for (int i = 0; i < told; i++) {
                if (names[i] == code) {
                    return i;
                }
            }
            return NONE;
        }

        boolean isTold(long code) {
            return indexOf(HOUSES, code) != NONE || indexOf(OWNERS, code) != NONE || indexOf(ROOMS, code) != NONE;
        }

        boolean isFull(int sort) {
            return manyOf(sort) >= namesOf(sort).length;
        }

        void tell(int sort, long code) {
            if (isBelow(sort, SORTS) && !isFull(sort)) {
                namesOf(sort)[many[sort]] = code;
                many[sort]++;
            }
        }

        boolean areJoined(int r, int s) {
            return has(around(bit(r), 0), s);
        }

        void join(int r, int s, boolean robe) {
            if (passages < MOST_PASSAGES) {
                oneEnd[passages] = r;
                otherEnd[passages] = s;
                robes |= robe ? bit(passages) : 0;
                passages++;
            }
        }

        int allRooms() {
            return bit(manyOf(ROOMS)) - 1;
        }

        int roomsIn(int h) {
            int rooms = 0;
            for (int r = 0; r < manyOf(ROOMS); r++) {
                rooms |= houseOf[r] == h ? bit(r) : 0;
            }
            return rooms;
        }

        int passagesOf(int r) {
            int found = 0;
            for (int k = 0; k < passages; k++) {
                boolean leadsHere = oneEnd[k] == r || otherEnd[k] == r;
                found |= leadsHere ? bit(k) : 0;
            }
            return found;
        }

        /** Rooms to which a passage leads from one of these, the closed passages left aside. */
        int around(int rooms, int closed) {
            int found = 0;
            for (int k = 0; k < passages; k++) {
                if (!has(closed, k)) {
                    found |= has(rooms, oneEnd[k]) ? bit(otherEnd[k]) : 0;
                    found |= has(rooms, otherEnd[k]) ? bit(oneEnd[k]) : 0;
                }
            }
            return found;
        }

        int liking(int p, int r) {
            return isBelow(p, MOST_OWNERS) && isBelow(r, MOST_ROOMS) ? likings[p * MOST_ROOMS + r] : 0;
        }

        void like(int p, int r, int n) {
            if (isBelow(p, MOST_OWNERS) && isBelow(r, MOST_ROOMS)) {
                likings[p * MOST_ROOMS + r] = n;
            }
        }

        int worthOf(int r) {
            int most = 0;
            for (int p = 0; p < manyOf(OWNERS); p++) {
                most = Math.max(most, liking(p, r));
            }
            return most;
        }
    }

    /** Reads a TERRACE into rows of its own, so that the one that stands stays if there is a FAULT. */
    private static final class TerraceReader {
        final Terrace told = new Terrace();
        final Deeds first = new Deeds();

        /** How many LINES; NONE with a FAULT. */
        int readText(Tape tape) {
            told.forget();
            first.forget();
            tape.begin(TERRACE_BYTES);
            for (int lines = 0; lines <= TERRACE_BYTES; lines++) {
                if (tape.kind == Tape.END) {
                    return lines;
                }
                if (!readFact(tape) || !tape.takeSign(';')) {
                    return NONE;
                }
            }
            return NONE;
        }

        private boolean readFact(Tape tape) {
            switch (tape.keyword()) {
                case W_HOUSE:
                    return readNewName(tape, HOUSES);
                case W_OWNER:
                    return readNewName(tape, OWNERS);
                case W_ROOM:
                    return readNewName(tape, ROOMS) && readHouseAndOwner(tape, told.manyOf(ROOMS) - 1);
                case W_DOOR:
                    return readPassage(tape, false);
                case W_ROBE:
                    return readPassage(tape, true);
                case W_AT:
                    return readPlace(tape);
                case W_LEAVE:
                    return readLeave(tape);
                case W_HEIR:
                    return readHeir(tape);
                case W_LIKES:
                    return readLiking(tape);
                default:
                    return tape.fail(NO_TOKEN);
            }
        }

        private boolean readNewName(Tape tape, int sort) {
            if (told.isFull(sort)) {
                return tape.fail(TOO_MANY);
            }
            tape.advance();
            if (tape.kind != Tape.NAME) {
                return tape.fail(NO_TOKEN);
            }
            if (told.isTold(tape.code)) {
                return tape.fail(BAD_NAME);
            }
            told.tell(sort, tape.code);
            tape.advance();
            return true;
        }

        private boolean readHouseAndOwner(Tape tape, int r) {
            int h = tape.toldName(told, HOUSES);
            if (h == NONE || !isBelow(r, MOST_ROOMS)) {
                return false;
            }
            told.houseOf[r] = h;
            tape.advance();
            int p = tape.toldName(told, OWNERS);
            if (p == NONE) {
                return false;
            }
            first.ownerOf[r] = p;
            tape.advance();
            return true;
        }

        private boolean readPassage(Tape tape, boolean robe) {
            if (told.passages >= MOST_PASSAGES) {
                return tape.fail(TOO_MANY);
            }
            tape.advance();
            int r = tape.toldName(told, ROOMS);
            if (r == NONE) {
                return false;
            }
            tape.advance();
            int s = tape.toldName(told, ROOMS);
            if (s == NONE) {
                return false;
            }
            if (r == s || told.areJoined(r, s)) {
                return tape.fail(BAD_NAME);
            }
            told.join(r, s, robe);
            tape.advance();
            return true;
        }

        private boolean readPlace(Tape tape) {
            tape.advance();
            int p = tape.toldName(told, OWNERS);
            if (p == NONE) {
                return false;
            }
            if (first.roomOf[p] != NONE) {
                return tape.fail(BAD_NAME);
            }
            tape.advance();
            int r = tape.toldName(told, ROOMS);
            if (r == NONE) {
                return false;
            }
            first.roomOf[p] = r;
            tape.advance();
            return true;
        }

        private boolean readLeave(Tape tape) {
            tape.advance();
            int p = tape.toldName(told, OWNERS);
            if (p == NONE) {
                return false;
            }
            tape.advance();
            int q = tape.toldName(told, OWNERS);
            if (q == NONE) {
                return false;
            }
            if (p == q || has(first.letBy[p], q)) {
                return tape.fail(BAD_NAME);
            }
            first.letBy[p] |= bit(q);
            tape.advance();
            return true;
        }

        private boolean readHeir(Tape tape) {
            tape.advance();
            int p = tape.toldName(told, OWNERS);
            if (p == NONE) {
                return false;
            }
            if (first.heirOf[p] != NONE) {
                return tape.fail(BAD_NAME);
            }
            tape.advance();
            int q = tape.toldName(told, OWNERS);
            if (q == NONE) {
                return false;
            }
            if (p == q) {
                return tape.fail(BAD_NAME);
            }
            first.heirOf[p] = q;
            tape.advance();
            return true;
        }

        private boolean readLiking(Tape tape) {
            tape.advance();
            int p = tape.toldName(told, OWNERS);
            if (p == NONE) {
                return false;
            }
            tape.advance();
            int r = tape.toldName(told, ROOMS);
            if (r == NONE) {
                return false;
            }
            if (told.liking(p, r) != 0) {
                return tape.fail(BAD_NAME);
            }
            tape.advance();
            int n = tape.numberWithin(1, 9);
            if (n == NONE) {
                return false;
            }
            told.like(p, r, n);
            tape.advance();
            return true;
        }
    }

    /** What is so now: all that deeds change. A deed answers 0 if it was done, else why not. */
    private static final class Deeds {
        final int[] ownerOf = new int[MOST_ROOMS];
        final int[] roomOf = new int[MOST_OWNERS];
        final int[] heirOf = new int[MOST_OWNERS];
        final int[] letBy = new int[MOST_OWNERS];
        final int[] goingsOf = new int[MOST_OWNERS];
        int burnt;
        int dead;
        int shutDoors;
        int minute;
        int sales;

        Deeds() {
            Arrays.fill(ownerOf, NONE);
            Arrays.fill(roomOf, NONE);
            Arrays.fill(heirOf, NONE);
        }

        void forget() {
            Arrays.fill(ownerOf, NONE);
            Arrays.fill(roomOf, NONE);
            Arrays.fill(heirOf, NONE);
            Arrays.fill(letBy, 0);
            Arrays.fill(goingsOf, 0);
            burnt = 0;
            dead = 0;
            shutDoors = 0;
            minute = 0;
            sales = 0;
        }

        void copyFrom(Deeds other) {
            System.arraycopy(other.ownerOf, 0, ownerOf, 0, MOST_ROOMS);
            System.arraycopy(other.roomOf, 0, roomOf, 0, MOST_OWNERS);
            System.arraycopy(other.heirOf, 0, heirOf, 0, MOST_OWNERS);
            System.arraycopy(other.letBy, 0, letBy, 0, MOST_OWNERS);
            System.arraycopy(other.goingsOf, 0, goingsOf, 0, MOST_OWNERS);
            burnt = other.burnt;
            dead = other.dead;
            shutDoors = other.shutDoors;
            minute = other.minute;
            sales = other.sales;
        }

        boolean lives(int p) {
            return !has(dead, p);
        }

        /** Rooms of an owner (NONE: of nobody), rows that no ROOM uses among nobody's. */
        int roomsOf(int p) {
            int rooms = 0;
            for (int r = 0; r < MOST_ROOMS; r++) {
                rooms |= ownerOf[r] == p ? bit(r) : 0;
            }
            return rooms;
        }

        int peopleIn(int r) {
            int people = 0;
            for (int p = 0; p < MOST_OWNERS; p++) {
                people |= roomOf[p] == r ? bit(p) : 0;
            }
            return people;
        }

        int allGoings() {
            int all = 0;
            for (int p = 0; p < MOST_OWNERS; p++) {
                all += goingsOf[p];
            }
            return all;
        }

        boolean hasLeave(int p, int r) {
            int host = ownerOf[r];
            return !isBelow(host, MOST_OWNERS) || host == p || has(letBy[host], p);
        }

        int goTo(Terrace terrace, int p, int r) {
            if (!lives(p)) {
                return 1;
            }
            if (has(burnt, r)) {
                return 2;
            }
            int here = roomOf[p];
            if (here != NONE && !has(terrace.around(bit(here), shutDoors), r)) {
                return 3;
            }
            if (!hasLeave(p, r)) {
                return 4;
            }
            roomOf[p] = r;
            goingsOf[p]++;
            return 0;
        }

        int sellTo(int p, int r, int q) {
            if (!lives(p) || !lives(q)) {
                return 1;
            }
            if (ownerOf[r] != p) {
                return 2;
            }
            if (has(burnt, r)) {
                return 3;
            }
            ownerOf[r] = q;
            sales++;
            return 0;
        }

        int setLeave(int p, int q, int on) {
            if (!lives(p) || !lives(q)) {
                return 1;
            }
            if (has(letBy[p], q) == (on == 1)) {
                return 2;
            }
            letBy[p] ^= bit(q);
            return 0;
        }

        int willTo(int p, int q) {
            if (!lives(p) || !lives(q)) {
                return 1;
            }
            if (heirOf[p] == q) {
                return 2;
            }
            heirOf[p] = q;
            return 0;
        }

        /** Who would have the rooms of one who lives; as many steps as there are owners bring all rounds home. */
        int successorOf(int p) {
            int q = heirOf[p];
            for (int i = 0; i < MOST_OWNERS && isBelow(q, MOST_OWNERS) && q != p; i++) {
                if (!has(dead, q)) {
                    return q;
                }
                q = heirOf[q];
            }
            return NONE;
        }

        int endLife(int p) {
            if (!lives(p)) {
                return 1;
            }
            int successor = successorOf(p);
            for (int r = 0; r < MOST_ROOMS; r++) {
                if (ownerOf[r] == p) {
                    ownerOf[r] = successor;
                }
            }
            dead |= bit(p);
            roomOf[p] = NONE;
            return 0;
        }

        int setShut(Terrace terrace, int k, int on) {
            if (has(terrace.robes, k)) {
                return 1;
            }
            if (has(shutDoors, k) == (on == 1)) {
                return 2;
            }
            shutDoors ^= bit(k);
            return 0;
        }

        int setFire(int r) {
            if (has(burnt, r)) {
                return 1;
            }
            burnt |= bit(r);
            for (int p = 0; p < MOST_OWNERS; p++) {
                if (roomOf[p] == r) {
                    endLife(p);
                }
            }
            return 0;
        }

        int passMinutes(Terrace terrace, int n) {
            if (minute + n > LAST_MINUTE) {
                return 1;
            }
            for (int i = 0; i < n; i++) {
                int caught = burnt == 0 ? 0 : terrace.around(burnt, shutDoors) & ~burnt;
                for (int r = 0; caught != 0 && r < MOST_ROOMS; r++) {
                    if (has(caught, r)) {
                        setFire(r);
                    }
                }
                minute++;
            }
            return 0;
        }
    }

    /** What was so ahead of the latest deeds: a round of rows, one more than can be undone for the deed that is tried. */
    private static final class Past {
        private static final int ROWS = MOST_UNDONE + 1;
        private final Deeds[] rows = new Deeds[ROWS];
        private int oldest;
        private int kept;

        Past() {
            for (int i = 0; i < ROWS; i++) {
                rows[i] = new Deeds();
            }
        }

        private Deeds newest() {
            return rows[Math.floorMod(oldest + kept, ROWS)];
        }

        void prepare(Deeds deeds) {
            newest().copyFrom(deeds);
        }

        void confirm() {
            if (kept < MOST_UNDONE) {
                kept++;
            } else {
                oldest = Math.floorMod(oldest + 1, ROWS);
            }
        }

        void forget() {
            kept = 0;
        }

        /** How many more can be undone; NONE, and nothing is, if there is none. */
        int takeBack(Deeds deeds) {
            if (kept == 0) {
                return NONE;
            }
            kept--;
            deeds.copyFrom(newest());
            return kept;
        }
    }

    /** A BOOK's lines, and what was found when they were last lived or judged. */
    private static final class Book {
        private static final int LAST_PASSAGE = MOST_PASSAGES - 1;
        private final int[] verbs = new int[BOOK_LINES];
        private final int[] doers = new int[BOOK_LINES];
        /** The ROOM, PASSAGE, number of minutes, or the other OWNER where there is no ROOM. */
        private final int[] objects = new int[BOOK_LINES];
        private final int[] buyers = new int[BOOK_LINES];
        private int lines;
        boolean judged;
        int why;
        int rightLines;
        int minuteThen;
        int died;

        boolean readText(Tape tape, Terrace terrace) {
            lines = 0;
            tape.begin(BOOK_BYTES);
            for (int i = 0; i <= BOOK_LINES; i++) {
                if (tape.kind == Tape.END) {
                    return true;
                }
                if (!readLine(tape, terrace)) {
                    return false;
                }
            }
            return false;
        }

        private boolean readLine(Tape tape, Terrace terrace) {
            int doer = NONE;
            if (tape.kind == Tape.NAME) {
                doer = tape.toldName(terrace, OWNERS);
                if (doer == NONE) {
                    return false;
                }
            } else if (!opensLine(tape.keyword())) {
                return tape.fail(NO_TOKEN);
            }
            if (lines >= BOOK_LINES) {
                return tape.fail(TOO_MANY);
            }
            if (doer != NONE) {
                tape.advance();
            }
            doers[lines] = doer;
            verbs[lines] = tape.keyword();
            boolean read = doer == NONE ? readEvent(tape, terrace) : readDeed(tape, terrace);
            if (!read || !tape.takeSign(';')) {
                return false;
            }
            lines++;
            return true;
        }

        private static boolean opensLine(int word) {
            return word == W_SHUTS || word == W_OPENS || word == W_BURNS || word == W_MINUTE;
        }

        private boolean readEvent(Tape tape, Terrace terrace) {
            int word = tape.keyword();
            tape.advance();
            if (word == W_BURNS) {
                return takeObject(tape, tape.toldName(terrace, ROOMS));
            }
            if (word == W_MINUTE) {
                return takeObject(tape, tape.numberWithin(1, MOST_MINUTES));
            }
            return takeObject(tape, tape.numberWithin(0, LAST_PASSAGE));
        }

        private boolean readDeed(Tape tape, Terrace terrace) {
            switch (tape.keyword()) {
                case W_GOES:
                    tape.advance();
                    return takeObject(tape, tape.toldName(terrace, ROOMS));
                case W_SELLS:
                    tape.advance();
                    return takeObject(tape, tape.toldName(terrace, ROOMS))
                        && takeBuyer(tape, tape.toldName(terrace, OWNERS));
                case W_LETS:
                case W_BARS:
                case W_WILLS:
                    tape.advance();
                    return takeObject(tape, tape.toldName(terrace, OWNERS));
                case W_DIES:
                    tape.advance();
                    return true;
                default:
                    return tape.fail(NO_TOKEN);
            }
        }

        private boolean takeObject(Tape tape, int found) {
            if (found == NONE || lines >= BOOK_LINES) {
                return false;
            }
            objects[lines] = found;
            tape.advance();
            return true;
        }

        private boolean takeBuyer(Tape tape, int found) {
            if (found == NONE || lines >= BOOK_LINES) {
                return false;
            }
            buyers[lines] = found;
            tape.advance();
            return true;
        }

        /** The line that is WRONG, all ahead of it done; NONE if all are done. */
        int live(Terrace terrace, Deeds deeds) {
            int deadBefore = deeds.dead;
            why = 0;
            rightLines = 0;
            for (int i = 0; i < lines && why == 0; i++) {
                why = doneOrWhy(terrace, deeds, i);
                rightLines += why == 0 ? 1 : 0;
            }
            judged = true;
            minuteThen = deeds.minute;
            died = deeds.dead & ~deadBefore;
            return why == 0 ? NONE : rightLines;
        }

        private int doneOrWhy(Terrace terrace, Deeds deeds, int i) {
            int doer = doers[i];
            int object = objects[i];
            boolean alike = doer == object;
            switch (verbs[i]) {
                case W_GOES:
                    return deeds.goTo(terrace, doer, object);
                case W_SELLS:
                    return doer == buyers[i] ? 19 : whyBy(10, deeds.sellTo(doer, object, buyers[i]));
                case W_LETS:
                    return alike ? 29 : whyBy(20, deeds.setLeave(doer, object, 1));
                case W_BARS:
                    return alike ? 39 : whyBy(30, deeds.setLeave(doer, object, 0));
                case W_WILLS:
                    return alike ? 49 : whyBy(40, deeds.willTo(doer, object));
                case W_DIES:
                    return whyBy(50, deeds.endLife(doer));
                case W_SHUTS:
                    return object >= terrace.passages ? 69 : whyBy(60, deeds.setShut(terrace, object, 1));
                case W_OPENS:
                    return object >= terrace.passages ? 79 : whyBy(70, deeds.setShut(terrace, object, 0));
                case W_BURNS:
                    return whyBy(80, deeds.setFire(object));
                default:
                    return whyBy(90, deeds.passMinutes(terrace, object));
            }
        }

        private static int whyBy(int sort, int whyNot) {
            return whyNot == 0 ? 0 : sort + whyNot;
        }
    }

    /** A SENTENCE as a row of words behind what they join, so that all rooms are judged at once. */
    private static final class Sentence {
        private static final int MOST_WORDS = 2 * MOST_ONES;
        private static final int SIGNS_APART = 100;
        private final int[] words = new int[MOST_WORDS];
        private final int[] values = new int[MOST_WORDS];
        private final int[] stack = new int[MOST_ONES + 1];
        private int size;
        /** 0: there is no SENTENCE. */
        int ones;

        void forget() {
            size = 0;
            ones = 0;
        }

        void copyFrom(Sentence other) {
            System.arraycopy(other.words, 0, words, 0, MOST_WORDS);
            System.arraycopy(other.values, 0, values, 0, MOST_WORDS);
            size = other.size;
            ones = other.ones;
        }

        boolean readText(Tape tape, Terrace terrace) {
            forget();
            tape.begin(SENTENCE_BYTES);
            if (!readCond(tape, terrace, 1)) {
                return false;
            }
            return tape.kind == Tape.END || tape.fail(NO_TOKEN);
        }

        /** ONES joined by 'and' stand close together, so an 'or' is written only when the ALL behind it is read. */
        private boolean readCond(Tape tape, Terrace terrace, int depth) {
            boolean read = readOne(tape, terrace, depth);
            boolean behindOr = false;
            for (int i = 0; read && i <= MOST_ONES; i++) {
                int joint = tape.keyword();
                if (behindOr && joint != W_AND) {
                    addWord(W_OR, 0);
                    behindOr = false;
                }
                if (joint != W_AND && joint != W_OR) {
                    return true;
                }
                tape.advance();
                read = readOne(tape, terrace, depth);
                if (joint == W_AND) {
                    addWord(W_AND, 0);
                } else {
                    behindOr = true;
                }
            }
            return false;
        }

        private boolean readOne(Tape tape, Terrace terrace, int depth) {
            boolean bracket = tape.isSign('(');
            int word = tape.keyword();
            if (!bracket && (word < W_NOT || word > W_NUMBER)) {
                return tape.fail(NO_TOKEN);
            }
            if (ones >= MOST_ONES || depth > DEEPEST_ONE) {
                return tape.fail(TOO_MANY);
            }
            ones++;
            tape.advance();
            if (bracket) {
                return readCond(tape, terrace, depth + 1) && tape.takeSign(')');
            }
            switch (word) {
                case W_NOT:
                    boolean read = readOne(tape, terrace, depth + 1);
                    addWord(W_NOT, 0);
                    return read;
                case W_BURNT:
                case W_FREE:
                    addWord(word, 0);
                    return true;
                case W_OF:
                    return readName(tape, word, tape.toldName(terrace, OWNERS));
                case W_IN:
                    return readName(tape, word, tape.toldName(terrace, HOUSES));
                default:
                    return readMeasure(tape, word);
            }
        }

        private boolean readName(Tape tape, int word, int found) {
            if (found == NONE) {
                return false;
            }
            addWord(word, found);
            tape.advance();
            return true;
        }

        private boolean readMeasure(Tape tape, int word) {
            if (!tape.isSign('<') && !tape.isSign('=') && !tape.isSign('>')) {
                return tape.fail(NO_TOKEN);
            }
            int sign = tape.value;
            tape.advance();
            int number = tape.numberWithin(0, SIGNS_APART - 1);
            if (number == NONE) {
                return false;
            }
            addWord(word, sign * SIGNS_APART + number);
            tape.advance();
            return true;
        }

        private void addWord(int word, int value) {
            if (size < MOST_WORDS) {
                words[size] = word;
                values[size] = value;
                size++;
            }
        }

        int roomsSaid(Terrace terrace, Deeds deeds) {
            int top = 0;
            for (int i = 0; i < size; i++) {
                int word = words[i];
                if (word == W_NOT && top >= 1) {
                    stack[top - 1] = ~stack[top - 1];
                } else if (word == W_AND && top >= 2) {
                    top--;
                    stack[top - 1] &= stack[top];
                } else if (word == W_OR && top >= 2) {
                    top--;
                    stack[top - 1] |= stack[top];
                } else if (top < stack.length) {
                    stack[top] = roomsByWord(terrace, deeds, word, values[i]);
                    top++;
                }
            }
            return top > 0 ? stack[0] & terrace.allRooms() : 0;
        }

        private static int roomsByWord(Terrace terrace, Deeds deeds, int word, int value) {
            switch (word) {
                case W_BURNT:
                    return deeds.burnt;
                case W_FREE:
                    return deeds.roomsOf(NONE);
                case W_OF:
                    return deeds.roomsOf(value);
                case W_IN:
                    return terrace.roomsIn(value);
                default:
                    return roomsByMeasure(terrace, deeds, word, value);
            }
        }

        private static int roomsByMeasure(Terrace terrace, Deeds deeds, int word, int value) {
            int sign = value / SIGNS_APART;
            int number = value - sign * SIGNS_APART;
            int rooms = 0;
            for (int r = 0; r < terrace.manyOf(ROOMS); r++) {
                int side = Integer.compare(measureOf(terrace, deeds, word, r), number);
                int wanted = sign == '<' ? -1 : sign == '>' ? 1 : 0;
                rooms |= side == wanted ? bit(r) : 0;
            }
            return rooms;
        }

        private static int measureOf(Terrace terrace, Deeds deeds, int word, int r) {
            switch (word) {
                case W_PEOPLE:
                    return Integer.bitCount(deeds.peopleIn(r));
                case W_DOORS:
                    return Integer.bitCount(terrace.passagesOf(r));
                case W_WORTH:
                    return terrace.worthOf(r);
                default:
                    return r;
            }
        }
    }

    /** Ways by leave, and the one that was last told. */
    private static final class Ways {
        private final int[] near = new int[MOST_ROOMS];
        /** By how many goings the wanted room is off: the rooms so far from it. */
        private final int[] layers = new int[MOST_ROOMS + 1];
        private final int[] path = new int[MOST_ROOMS];
        final int[] steps = new int[MOST_ROOMS];
        int told;
        int toldAsked = NONE;

        /** Rooms that one may enter by leave, were some others to let him, too. */
        int enterable(Terrace terrace, Deeds deeds, int p, int letting) {
            int rooms = 0;
            for (int r = 0; r < terrace.manyOf(ROOMS); r++) {
                int host = deeds.ownerOf[r];
                boolean entered = deeds.hasLeave(p, r) || has(letting, host);
                rooms |= entered ? bit(r) : 0;
            }
            return rooms & ~deeds.burnt;
        }

        /** Rooms to which one has a way, were some others to let him, too. */
        int reach(Terrace terrace, Deeds deeds, int p, int letting) {
            if (!deeds.lives(p)) {
                return 0;
            }
            int entered = enterable(terrace, deeds, p, letting);
            int here = deeds.roomOf[p];
            if (here == NONE) {
                return entered;
            }
            int reached = bit(here);
            int fresh = reached;
            for (int i = 0; i < MOST_ROOMS && fresh != 0; i++) {
                fresh = terrace.around(fresh, deeds.shutDoors) & entered & ~reached;
                reached |= fresh;
            }
            return reached;
        }

        int fewestAsked(Terrace terrace, Deeds deeds, int p, int r) {
            int fewest = NONE;
            int found = NONE;
            int sets = bit(terrace.manyOf(OWNERS));
            for (int letting = 0; letting < sets; letting++) {
                int many = Integer.bitCount(letting);
                boolean fewer = fewest == NONE || many < fewest;
                if (fewer && has(reach(terrace, deeds, p, letting), r)) {
                    fewest = many;
                    found = letting;
                }
            }
            if (fewest != NONE) {
                toldAsked = found;
            }
            return fewest;
        }

        /** How many goings, the rooms entered standing in the path; NONE without a way. */
        int find(Terrace terrace, Deeds deeds, int p, int r) {
            int here = deeds.roomOf[p];
            if (here == r) {
                return 0;
            }
            int entered = deeds.lives(p) ? enterable(terrace, deeds, p, 0) : 0;
            if (!has(entered, r)) {
                return NONE;
            }
            if (!isBelow(here, MOST_ROOMS)) {
                path[0] = r;
                return 1;
            }
            for (int s = 0; s < MOST_ROOMS; s++) {
                near[s] = terrace.around(bit(s), deeds.shutDoors);
            }
            int goings = layersTill(terrace, deeds.shutDoors, here, r, entered);
            leastPath(here, goings);
            return goings;
        }

        private int layersTill(Terrace terrace, int closed, int here, int r, int entered) {
            int seen = bit(r);
            layers[0] = seen;
            for (int n = 1; n <= MOST_ROOMS; n++) {
                if ((near[here] & layers[n - 1]) != 0) {
                    return n;
                }
                layers[n] = terrace.around(layers[n - 1], closed) & entered & ~seen;
                seen |= layers[n];
            }
            return NONE;
        }

        private void leastPath(int here, int goings) {
            int at = here;
            for (int i = 0; i < goings && i < MOST_ROOMS; i++) {
                at = leastOf(near[at] & layers[goings - 1 - i]);
                path[i] = at;
            }
        }

        private static int leastOf(int rooms) {
            int least = 0;
            while (least < MOST_ROOMS - 1 && !has(rooms, least)) {
                least++;
            }
            return least;
        }

        void tellSteps(int goings) {
            told = Math.min(goings, MOST_ROOMS);
            System.arraycopy(path, 0, steps, 0, told);
        }

        int ownersMet(Deeds deeds, int p, int goings) {
            int owners = 0;
            for (int i = 0; i < goings && i < MOST_ROOMS; i++) {
                int host = deeds.ownerOf[path[i]];
                owners |= host == NONE || host == p ? 0 : bit(host);
            }
            return owners;
        }
    }

    /** How a fire goes on if nothing is done, and what would keep it off. */
    private static final class Fires {
        private final int[] flow = new int[MOST_PASSAGES];
        private final int[] cameBy = new int[MOST_ROOMS];

        int burntIn(Terrace terrace, Deeds deeds, int n) {
            int burnt = deeds.burnt;
            for (int i = 0; i < n && i < MOST_ROOMS; i++) {
                burnt |= terrace.around(burnt, deeds.shutDoors);
            }
            return burnt;
        }

        int minutesTill(Terrace terrace, Deeds deeds, int r) {
            int burnt = deeds.burnt;
            for (int n = 0; n <= MOST_ROOMS; n++) {
                if (has(burnt, r)) {
                    return n;
                }
                burnt |= terrace.around(burnt, deeds.shutDoors);
            }
            return NONE;
        }

        /**
         * As many doors as there are ways for the fire that share no door. Robes carry any number of ways, so where
         * robes alone lead there are more ways than there may be doors.
         */
        int fewestDoors(Terrace terrace, Deeds deeds, int r) {
            if (has(deeds.burnt, r)) {
                return NONE;
            }
            Arrays.fill(flow, 0);
            for (int doors = 0; doors <= MOST_PASSAGES; doors++) {
                if (!findsWay(terrace, deeds, r)) {
                    return doors;
                }
                takeWay(terrace, deeds.burnt, r);
            }
            return NONE;
        }

        private boolean findsWay(Terrace terrace, Deeds deeds, int r) {
            int seen = deeds.burnt;
            for (int i = 0; i < MOST_ROOMS && !has(seen, r); i++) {
                for (int k = 0; k < terrace.passages; k++) {
                    boolean robe = has(terrace.robes, k);
                    int a = terrace.oneEnd[k];
                    int b = terrace.otherEnd[k];
                    if (has(deeds.shutDoors, k) || has(seen, a) == has(seen, b)) {
                        continue;
                    }
                    int onward = has(seen, a) ? 1 : -1;
                    if (robe || flow[k] != onward) {
                        int reached = has(seen, a) ? b : a;
                        cameBy[reached] = k;
                        seen |= bit(reached);
                    }
                }
            }
            return has(seen, r);
        }

        private void takeWay(Terrace terrace, int burnt, int r) {
            int at = r;
            for (int i = 0; i < MOST_ROOMS && !has(burnt, at); i++) {
                int k = cameBy[at];
                boolean toOther = terrace.otherEnd[k] == at;
                flow[k] += toOther ? 1 : -1;
                at = toOther ? terrace.oneEnd[k] : terrace.otherEnd[k];
            }
        }
    }

    /** Exchanges round rings, and prices till they rest. */
    private static final class Market {
        final int[] gets = new int[MOST_OWNERS];
        int ringsOfMore;
        final int[] priceOf = new int[MOST_ROOMS];
        final int[] wantedBy = new int[MOST_OWNERS];
        boolean priced;
        private final int[] brings = new int[MOST_OWNERS];
        private final int[] bringerOf = new int[MOST_ROOMS];
        private final int[] pointsTo = new int[MOST_OWNERS];

        void trade(Terrace terrace, Deeds deeds) {
            ringsOfMore = 0;
            Arrays.fill(gets, NONE);
            gather(terrace, deeds);
            // each round at least one ring goes, so there are no more rounds than owners
            for (int round = 0; round < MOST_OWNERS; round++) {
                for (int p = 0; p < MOST_OWNERS; p++) {
                    int own = brings[p];
                    pointsTo[p] = isBelow(own, MOST_ROOMS) ? bringerOf[likedMost(terrace, p, own)] : NONE;
                }
                closeRings();
            }
        }

        private void gather(Terrace terrace, Deeds deeds) {
            Arrays.fill(brings, NONE);
            Arrays.fill(bringerOf, NONE);
            for (int r = 0; r < terrace.manyOf(ROOMS); r++) {
                int p = deeds.ownerOf[r];
                if (isBelow(p, MOST_OWNERS) && deeds.lives(p) && brings[p] == NONE && !has(deeds.burnt, r)) {
                    brings[p] = r;
                    bringerOf[r] = p;
                }
            }
        }

        private int likedMost(Terrace terrace, int p, int own) {
            int best = own;
            for (int r = 0; r < MOST_ROOMS; r++) {
                if (bringerOf[r] != NONE && terrace.liking(p, r) > terrace.liking(p, best)) {
                    best = r;
                }
            }
            return best;
        }

        private void closeRings() {
            int gone = 0;
            for (int p = 0; p < MOST_OWNERS; p++) {
                int ring = has(gone, p) ? 0 : ringOf(p);
                gone |= ring;
                ringsOfMore += Integer.bitCount(ring) > 1 ? 1 : 0;
            }
            for (int p = 0; p < MOST_OWNERS; p++) {
                if (has(gone, p) && isBelow(pointsTo[p], MOST_OWNERS)) {
                    gets[p] = brings[pointsTo[p]];
                }
            }
            for (int p = 0; p < MOST_OWNERS; p++) {
                if (has(gone, p) && isBelow(brings[p], MOST_ROOMS)) {
                    bringerOf[brings[p]] = NONE;
                    brings[p] = NONE;
                }
            }
        }

        /** Those in a ring with one, as bits; 0 if he is in none. */
        private int ringOf(int p) {
            int ring = 0;
            int at = p;
            for (int i = 0; i < MOST_OWNERS && isBelow(pointsTo[at], MOST_OWNERS); i++) {
                ring |= bit(at);
                at = pointsTo[at];
                if (at == p) {
                    return ring;
                }
            }
            return 0;
        }

        int findPrices(Terrace terrace, Deeds deeds) {
            priced = true;
            Arrays.fill(priceOf, 0);
            Arrays.fill(wantedBy, NONE);
            for (int round = 1; round < MOST_ROUNDS; round++) {
                choose(terrace, deeds);
                if (!raisePrices()) {
                    return round;
                }
            }
            choose(terrace, deeds);
            raisePrices();
            return MOST_ROUNDS;
        }

        private void choose(Terrace terrace, Deeds deeds) {
            for (int p = 0; p < terrace.manyOf(OWNERS); p++) {
                wantedBy[p] = deeds.lives(p) ? bestBuy(terrace, deeds.burnt, p) : NONE;
            }
        }

        private int bestBuy(Terrace terrace, int burnt, int p) {
            int best = NONE;
            int most = -1;
            for (int r = 0; r < terrace.manyOf(ROOMS); r++) {
                int liking = terrace.liking(p, r);
                if (liking > 0 && !has(burnt, r) && liking - priceOf[r] > most) {
                    most = liking - priceOf[r];
                    best = r;
                }
            }
            return best;
        }

        private boolean raisePrices() {
            boolean raised = false;
            for (int r = 0; r < MOST_ROOMS; r++) {
                int wanting = 0;
                for (int p = 0; p < MOST_OWNERS; p++) {
                    wanting += wantedBy[p] == r ? 1 : 0;
                }
                if (wanting > 1) {
                    priceOf[r]++;
                    raised = true;
                }
            }
            return raised;
        }
    }

    /** Minutes in which a row of draws says what is done. */
    private static final class Draws {
        private static final int CHANCES_OF_FIRE = 60;
        private int x;

        private int draw(int n) {
            x = x * 1103515245 + 12345;
            return n > 0 ? (x >>> 8) % n : 0;
        }

        void liveMinutes(Terrace terrace, Deeds deeds, int n, int seed) {
            x = seed;
            int rooms = terrace.manyOf(ROOMS);
            for (int i = 0; i < n; i++) {
                for (int p = 0; p < terrace.manyOf(OWNERS); p++) {
                    if (deeds.lives(p)) {
                        doDrawn(terrace, deeds, p);
                    }
                }
                if (draw(CHANCES_OF_FIRE) == 0) {
                    deeds.setFire(draw(rooms));
                }
                deeds.passMinutes(terrace, 1);
            }
        }

        private void doDrawn(Terrace terrace, Deeds deeds, int p) {
            int rooms = terrace.manyOf(ROOMS);
            int owners = terrace.manyOf(OWNERS);
            int deed = draw(4);
            if (deed == 0) {
                deeds.goTo(terrace, p, draw(rooms));
            } else if (deed == 1) {
                int q = draw(owners);
                if (q != p) {
                    deeds.setLeave(p, q, 1);
                }
            } else if (deed == 2) {
                int r = draw(rooms);
                int q = draw(owners);
                if (q != p) {
                    deeds.sellTo(p, r, q);
                }
            }
        }
    }
}
