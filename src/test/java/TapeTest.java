/** Promises 1, 2, 3 and 47: a new object, feed, end, count. */
public final class TapeTest {
    public static void main(String[] args) {
        newObject();
        feeding();
        ending();
        counting();
        Check.close();
    }

    private static void newObject() {
        WardrobeRow row = new WardrobeRow();
        for (int what = 0; what <= 5; what++) {
            Check.due("new count(" + what + ")", row.count(what), 0);
        }
        Check.due("new fault", row.fault(), 0);
        Check.due("new now(0)", row.now(0), 0);
        Check.due("new now(3)", row.now(3), 0);
        Check.due("new prices", row.prices(), 1);
        Check.due("new mixed", row.mixed(), 0);
        Check.due("new undo", row.undo(), -1);
        Check.due("new said", row.said(-1), -1);
        Check.due("empty text", row.terrace(), 0);
    }

    private static void feeding() {
        WardrobeRow row = new WardrobeRow();
        for (int i = 1; i <= 47; i++) {
            Check.due("feed " + i, row.feed(0, 0, 0, 0, 0), 20 * i);
        }
        Check.due("feed beyond 940", row.feed(1, 1, 1, 1, 1), -1);
        Check.due("tape then", row.count(5), 940);
        Check.due("end(921)", row.end(921), true);
        Check.due("feed to 941", row.feed(0, 0, 0, 0, 0), -1);
        Check.due("end(920)", row.end(920), true);
        Check.due("feed to 940", row.feed(0, 0, 0, 0, 0), 940);
        // the highest byte comes first: 'hous' 'e h;'
        WardrobeRow told = new WardrobeRow();
        told.feed(0x686f7573, 0x6520683b, 0x20202020, 0x0a0a0a0a, 0x20202020);
        Check.due("one house", told.terrace(), 1);
        Check.due("houses", told.count(0), 1);
        Check.due("empty tape then", told.count(5), 0);
        // bytes above 127 are no blanks and no room's number
        WardrobeRow high = Check.row("house h;owner o;room r h o;");
        high.feed(-1, -1, -1, -1, -1);
        high.end(1);
        Check.due("room 255", high.walked(), -1);
    }

    private static void ending() {
        WardrobeRow row = new WardrobeRow();
        Check.due("end(0) of nothing", row.end(0), true);
        Check.due("end(1) of nothing", row.end(1), false);
        row.feed(1, 2, 3, 4, 5);
        Check.due("end(21)", row.end(21), false);
        Check.due("end(-1)", row.end(-1), false);
        Check.due("count(5) stays", row.count(5), 20);
        Check.due("end(20)", row.end(20), true);
        Check.due("end(7)", row.end(7), true);
        Check.due("count(5)", row.count(5), 7);
        Check.due("end(8)", row.end(8), false);
        Check.due("feed behind", row.feed(0, 0, 0, 0, 0), 27);
    }

    private static void counting() {
        WardrobeRow row = Check.row("house h;house i;owner o;room r h o;room s h o;room t i o;"
            + "door r s;robe s t;robe r t;");
        Check.due("houses", row.count(0), 2);
        Check.due("owners", row.count(1), 1);
        Check.due("rooms", row.count(2), 3);
        Check.due("passages", row.count(3), 3);
        Check.due("robes", row.count(4), 2);
        Check.due("count(6)", row.count(6), -1);
        Check.due("count(-1)", row.count(-1), -1);
    }
}
