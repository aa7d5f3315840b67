/** Promise 5: drive. */
public final class DriveTest {
    private static final String WIDE = "CHIP Not{IN a;OUT o;PARTS:Nand(a=a,b=a,out=o);}"
            + "CHIP W{IN a[3],b,c[16];OUT o[6];PARTS:Not(a=a[0],o=o[0]);Not(a=a[1],o=o[1]);Not(a=a[2],o=o[2]);"
            + "Not(a=b,o=o[3]);Not(a=c[0],o=o[4]);Not(a=c[15],o=o[5]);}";

    public static void main(String[] args) {
        lowestBits();
        wrongPins();
        everyPinByItself();
        settlesAtOnce();
        Check.end();
    }

    private static void lowestBits() {
        ChipDesk desk = Check.board(WIDE);
        Check.due("pin(0) at first", desk.pin(0), 0b111111);
        Check.due("drive(0, 5)", desk.drive(0, 5), true);
        Check.due("pin(0)", desk.pin(0), 0b111010);
        Check.due("drive(0, -6)", desk.drive(0, -6), true);
        Check.due("pin(0)", desk.pin(0), 0b111101);
        Check.due("drive(0, 8)", desk.drive(0, 8), true);
        Check.due("pin(0)", desk.pin(0), 0b111111);
        Check.due("drive(2, MIN_VALUE)", desk.drive(2, Integer.MIN_VALUE), true);
        Check.due("pin(0)", desk.pin(0), 0b111111);
        Check.due("drive(2, 32768)", desk.drive(2, 0x8000), true);
        Check.due("pin(0)", desk.pin(0), 0b011111);
        Check.due("drive(2, 65536)", desk.drive(2, 0x10000), true);
        Check.due("pin(0)", desk.pin(0), 0b111111);
        Check.due("drive(2, -1)", desk.drive(2, -1), true);
        Check.due("pin(0)", desk.pin(0), 0b001111);
        Check.due("drive(1, 2)", desk.drive(1, 2), true);
        Check.due("pin(0)", desk.pin(0), 0b001111);
        Check.due("drive(1, 3)", desk.drive(1, 3), true);
        Check.due("pin(0)", desk.pin(0), 0b000111);
    }

    private static void wrongPins() {
        ChipDesk desk = Check.board(WIDE);
        int[] wrong = {-1, 3, 4, 8, 9, 1000, Integer.MAX_VALUE, Integer.MIN_VALUE};
        for (int k : wrong) {
            Check.due("drive(" + k + ", -1)", desk.drive(k, -1), false);
        }
        Check.due("pin(0)", desk.pin(0), 0b111111);
        Check.due("drive of no board", new ChipDesk().drive(0, 0), false);
    }

    private static void everyPinByItself() {
        ChipDesk desk = Check.board("CHIP A{IN a,b,c,d,e,f,g;OUT o;PARTS:Nand(a=g,b=true,out=o);}");
        for (int k = 0; k < 6; k++) {
            Check.due("drive", desk.drive(k, 1), true);
            Check.due("pin(0)", desk.pin(0), 1);
        }
        Check.due("drive(6, 1)", desk.drive(6, 1), true);
        Check.due("pin(0)", desk.pin(0), 0);
    }

    private static void settlesAtOnce() {
        // Parts stand in the wrong order, so one look at each would not do.
        ChipDesk desk = Check.board("CHIP A{IN a;OUT o;PARTS:Nand(a=z,b=z,out=o);Nand(a=y,b=y,out=z);"
                + "Nand(a=x,b=x,out=y);Nand(a=a,b=a,out=x);}");
        for (int i = 0; i < 6; i++) {
            Check.outIs(desk, 0, i & 1, i);
        }
    }
}
