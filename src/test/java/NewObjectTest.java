/** Promise 1: a new object has no text and no board. */
public final class NewObjectTest {
    public static void main(String[] args) {
        noBoard();
        noText();
        objectsAreApart();
        Check.end();
    }

    private static void noBoard() {
        ChipDesk desk = new ChipDesk();
        Check.due("place()", desk.place(), -1);
        Check.due("drive(0, 1)", desk.drive(0, 1), false);
        Check.due("pin(0)", desk.pin(0), -1);
        Check.due("tick()", desk.tick(), -1);
        for (int what = -1; what <= 8; what++) {
            Check.due("gates(" + what + ")", desk.gates(what), -1);
        }
    }

    private static void noText() {
        ChipDesk desk = new ChipDesk();
        Check.due("read()", desk.read(), 1);
        Check.due("place()", desk.place(), 0);
    }

    private static void objectsAreApart() {
        ChipDesk one = Check.board("CHIP A{IN a;OUT o;PARTS:Nand(a=a,b=a,out=o);}");
        ChipDesk other = new ChipDesk();
        Check.due("pin(0) of the other", other.pin(0), -1);
        Check.due("pin(0) of the one", one.pin(0), 1);
    }
}
