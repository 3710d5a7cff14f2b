/** Promises 45 and 46: image, restore. */
public final class ImageTest {
    private static final String TEXT = "house h;owner o;owner p;room a h o;room b h p;door a b;at o a;leave p o;"
        + "likes o a 2;likes p a 2;";

    public static void main(String[] args) {
        WardrobeRow row = Check.row(TEXT);
        Check.due("no such places", row.image(2) || row.image(-1), false);
        Check.due("nothing kept", row.restore(0) || row.restore(1) || row.restore(2) || row.restore(-1), false);
        Check.sentence(row, "of p");
        row.go(0, 1);
        row.minutes(3);
        Check.due("kept", row.image(1), true);
        Check.due("undo stays", row.undo(), 1);
        row.burn(1);
        row.let(0, 1, 1);
        row.will(1, 0);
        row.shut(0, 1);
        row.prices();
        row.way(1, 0);
        row.asks(1, 0);
        Check.book(row, "o goes b;", 0);
        Check.sentence(row, "burnt or");
        Check.terrace(row, "house x;house y;owner z;room r x z;");
        Check.sentence(row, "number = 0 and in x");
        row.minutes(60);
        Check.due("kept, too", row.image(0), true);
        row.feed(0, 0, 0, 0, 0);
        Check.due("restored", row.restore(1), true);
        Check.due("the tape stays", row.count(5), 20);
        Check.due("nothing can be undone", row.undo(), -1);
        Check.due("rooms", row.count(2), 2);
        Check.due("minute", row.now(0), 3);
        Check.due("he is in b", row.owner(0, 0), 1);
        Check.due("goings", row.now(5), 1);
        Check.due("nothing burnt", row.now(2), 0);
        Check.due("leave", row.owner(0, 3), 0);
        Check.due("door", row.passage(0, 3), 0);
        Check.due("SENTENCE", row.said(0), 1);
        Check.due("likings", row.prices(), 4);
        Check.due("names", Check.book(row, "o goes a;", 1), -1);
        Check.due("way stays told", row.step(0), 0);
        Check.due("asked stays told", row.asked(), 0);
        Check.due("the other", row.restore(0), true);
        Check.due("houses", row.count(0), 2);
        Check.due("minute", row.now(0), 60);
        Check.due("its SENTENCE", row.said(0), 0);
        Check.due("nothing can be undone", row.undo(), -1);
        Check.due("booked stays told", row.booked(1), 1);
        Check.due("prices stay told", row.price(0), 3);
        Check.due("again", row.restore(1), true);
        Check.due("as kept", row.now(0), 3);
        row.burn(0);
        Check.due("kept anew", row.image(1), true);
        row.undo();
        row.restore(1);
        Check.due("the newer", row.now(2), 1);
        WardrobeRow empty = new WardrobeRow();
        empty.image(0);
        Check.terrace(empty, TEXT);
        Check.sentence(empty, "of o");
        Check.due("an empty TERRACE", empty.restore(0), true);
        Check.due("no rooms", empty.count(2), 0);
        Check.due("no SENTENCE", empty.said(-1), -1);
        Check.close();
    }
}
