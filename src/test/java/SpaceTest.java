import java.lang.management.ManagementFactory;

/** All calls of one run live in one room: a call makes nothing, a new object little. */
public final class SpaceTest {
    private static final String TEXT = "house h;owner o;owner p;owner q;room a h o;room b h p;room c h q;room d h o;"
        + "door a b;robe b c;door c d;at o a;heir o p;leave p o;likes o b 5;likes p a 6;likes q a 6;";

    public static void main(String[] args) {
        if (!(ManagementFactory.getThreadMXBean() instanceof com.sun.management.ThreadMXBean bean)) {
            System.out.println("this machine does not count what is made");
            Check.due("nothing to count", 0, 0);
            Check.close();
            return;
        }
        for (int i = 0; i < 3; i++) {
            calls(Check.row(TEXT));
        }
        WardrobeRow row = Check.row(TEXT);
        Check.tape(row, "o goes b;minute 5;");
        long id = Thread.currentThread().getId();
        long idle = -bean.getThreadAllocatedBytes(id) + bean.getThreadAllocatedBytes(id);
        long before = bean.getThreadAllocatedBytes(id);
        calls(row);
        long made = bean.getThreadAllocatedBytes(id) - before - idle;
        Check.due("bytes made by calls: " + made, made <= 256, true);
        before = bean.getThreadAllocatedBytes(id);
        WardrobeRow another = new WardrobeRow();
        made = bean.getThreadAllocatedBytes(id) - before;
        Check.due("bytes made by a new object: " + made, made <= 20000, true);
        Check.due("used", another.count(0), 0);
        System.out.println("a new object takes " + made + " bytes");
        Check.close();
    }

    private static void calls(WardrobeRow row) {
        row.book(1);
        row.feed(0x62726e74, 0, 0, 0, 0);
        row.sentence();
        row.feed(0x66726565, 0x20202020, 0x20202020, 0x20202020, 0x20202020);
        row.sentence();
        row.said(-1);
        row.feed(0x00010203, 0, 0, 0, 0);
        row.end(4);
        row.walked();
        row.feed(0x00010203, 0, 0, 0, 0);
        row.end(2);
        row.corridor(2);
        for (int i = 0; i < 4; i++) {
            row.go(i, i);
            row.way(i, 3);
            row.through(i, 3);
            row.barred(i);
            row.asks(i, 3);
            row.exchange(i);
            row.cut(i);
            row.fire(i);
            row.spread(i);
            row.guests(i);
        }
        row.rings();
        row.prices();
        row.mixed();
        row.drawn(60, 3);
        row.odds(1, 40, 7);
        row.undo();
        row.image(0);
        row.restore(0);
        row.terrace();
    }
}
