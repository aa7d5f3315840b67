/** Promise 4: place. */
public final class PlaceTest {
    public static void main(String[] args) {
        ofTheLastRead();
        ofManyPlaces();
        staysUntilTheNextRead();
        Check.end();
    }

    private static void ofTheLastRead() {
        ChipDesk desk = new ChipDesk();
        Check.due("place() without a read", desk.place(), -1);
        Check.write(desk, "CHIP A{IN a,a;OUT o;PARTS:}");
        Check.due("place() ahead of the read", desk.place(), -1);
        Check.due("read()", desk.read(), 3);
        Check.due("place()", desk.place(), 12);
        Check.write(desk, "CHIP A{IN a;OUT o;PARTS:}");
        Check.due("read()", desk.read(), 0);
        Check.due("place()", desk.place(), -1);
        Check.write(desk, "CHIP A{IN a;OUT o;PARTS:A(a=a);}");
        Check.due("read()", desk.read(), 6);
        Check.due("place()", desk.place(), 5);
        Check.due("read() of nothing", desk.read(), 1);
        Check.due("place()", desk.place(), 0);
    }

    private static void ofManyPlaces() {
        for (int blanks = 0; blanks <= 1972; blanks += 58) {
            String front = " ".repeat(blanks);
            Check.fault(5, front + "CHIP A{IN a[^0];OUT o;PARTS:}");
        }
    }

    private static void staysUntilTheNextRead() {
        ChipDesk desk = new ChipDesk();
        Check.write(desk, "CHIP ;");
        Check.due("read()", desk.read(), 1);
        Check.due("drive", desk.drive(0, 1), false);
        Check.due("tick()", desk.tick(), -1);
        Check.due("put", desk.put(32, 1), true);
        Check.due("put", desk.put(32, 9), false);
        Check.due("place()", desk.place(), 5);
        Check.due("place() again", desk.place(), 5);
    }
}
