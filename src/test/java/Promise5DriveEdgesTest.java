/** Promise 5, drive: the sentences that name a boundary case. */
public final class Promise5DriveEdgesTest {
    private static final String PROMISE = "Promise 5, drive";
    private static final String FROM_0 = "The board's IN pin k (from 0 on, as they stand)";
    private static final String LOWEST = "has the lowest bits of v";
    private static final String NONE = "false if there is none such, or no board";
    private static final String REFUSED = "A call that is refused changes nothing";

    /** Each of seven IN pins leads to a bit of the OUT pin, turned. */
    private static final String SEVEN = "CHIP A{IN p0,p1,p2,p3,p4,p5,p6;OUT o[7];PARTS:" + sevenNands() + "}";

    public static void main(String[] args) {
        zeroAtFirst();
        firstAndLastPin();
        onePinAlone();
        lowestBitOfV();
        lowest16BitsOfV();
        eachWidth();
        fullBoard();
        settlesAtOnce();
        noSuchPin();
        noBoard();
        refusedChangesNothing();
        Check.end();
    }

    private static String sevenNands() {
        StringBuilder parts = new StringBuilder();
        for (int i = 0; i < 7; i++) {
            parts.append("Nand(a=p" + i + ",b=true,out=o[" + i + "]);");
        }
        return parts.toString();
    }

    private static void zeroAtFirst() {
        Check.sentence(PROMISE, "The board's IN pins are 0 at first");
        ChipDesk desk = Check.board(SEVEN);
        Check.due("pin(0)", desk.pin(0), 0x7F);
        for (int k = 0; k < 7; k++) {
            Check.due("drive(" + k + ", 1)", desk.drive(k, 1), true);
        }
        Check.due("pin(0)", desk.pin(0), 0);
        Check.newBoard(desk, SEVEN);
        Check.due("pin(0) of a new board", desk.pin(0), 0x7F);
        Check.outIs(Check.board(Texts.NOT16), 0, 0xFFFF);
    }

    private static void firstAndLastPin() {
        Check.sentence(PROMISE, FROM_0);
        ChipDesk desk = Check.board(SEVEN);
        for (int k = 0; k < 7; k++) {
            Check.due("drive(" + k + ", 1)", desk.drive(k, 1), true);
            Check.due("pin(0)", desk.pin(0), 0x7F & ~(1 << k));
            Check.due("drive(" + k + ", 0)", desk.drive(k, 0), true);
            Check.due("pin(0)", desk.pin(0), 0x7F);
        }
        Check.due("drive(7, 1)", desk.drive(7, 1), false);
    }

    private static void onePinAlone() {
        Check.sentence(PROMISE, FROM_0);
        ChipDesk desk = Check.board(Texts.NOT);
        Check.due("drive(0, 1)", desk.drive(0, 1), true);
        Check.due("drive(1, 1)", desk.drive(1, 1), false);
        Check.due("drive(-1, 1)", desk.drive(-1, 1), false);
        Check.due("pin(0)", desk.pin(0), 0);
    }

    private static void lowestBitOfV() {
        Check.sentence(PROMISE, LOWEST);
        ChipDesk desk = Check.board(Texts.NOT);
        int[] values = {0, 1, 2, 3, -1, -2, 256, 257, 65536, 65537, Integer.MAX_VALUE, Integer.MIN_VALUE, Integer.MIN_VALUE + 1};
        for (int v : values) {
            Check.outIs(desk, 0, 1 - (v & 1), v);
        }
    }

    private static void lowest16BitsOfV() {
        Check.sentence(PROMISE, LOWEST);
        ChipDesk desk = Check.board(Texts.NOT16);
        int[] values = {0, 1, 0x7FFF, 0x8000, 0xFFFF, 0x10000, 0x10001, 0x18000, 0x1FFFF, -1, -2, -0x8000, -0x10000,
            Integer.MAX_VALUE, Integer.MIN_VALUE, 0x12345678};
        for (int v : values) {
            Check.outIs(desk, 0, ~v & 0xFFFF, v);
        }
        for (int bit = 0; bit < 32; bit++) {
            Check.outIs(desk, 0, ~(1 << bit) & 0xFFFF, 1 << bit);
        }
    }

    /** The pins beside the driven one keep what they have. */
    private static void eachWidth() {
        Check.sentence(PROMISE, LOWEST);
        for (int width = 1; width <= 15; width++) {
            String text = Texts.NOT16 + "CHIP A{IN a[" + width + "],b[" + (16 - width) + "];OUT o[16];PARTS:"
                    + "N16(i[0.." + (width - 1) + "]=a,i[" + width + "..15]=b,u=o);}";
            ChipDesk desk = Check.board(text);
            int low = (1 << width) - 1;
            Check.outIs(desk, 0, 0xFFFF & ~low, -1);
            Check.outIs(desk, 0, 0, -1, -1);
            Check.outIs(desk, 0, low, 1 << width);
            Check.outIs(desk, 0, 0xFFFF, 0, 1 << 16 - width);
        }
    }

    /** Seven IN pins of 16 bits and 300 gates: the last of them gets the last bit. */
    private static void fullBoard() {
        Check.sentence(PROMISE, LOWEST);
        String parts = "U(a=a[0]);U(a=a[0]);V(a=a[0]);Nand(a=g[14]);Nand(a=g[15],b=true,out=o);";
        ChipDesk desk = Check.board(Texts.manyGates("Nand(a=a);") + Texts.chip("V", Texts.times(10, "Nand(a=a);"))
                + "CHIP A{IN a[16],b[16],c[16],d[16],e[16],f[16],g[16];OUT o;PARTS:" + parts + "}");
        Check.due("gates(0)", desk.gates(0), 300);
        Check.due("drive(6, 32768)", desk.drive(6, 0x8000), true);
        Check.due("pin(0)", desk.pin(0), 0);
        Check.due("drive(6, 32767)", desk.drive(6, 0x7FFF), true);
        Check.due("pin(0)", desk.pin(0), 1);
    }

    private static void settlesAtOnce() {
        Check.sentence(PROMISE, "all gates settle at once, whatever changes");
        // 300 Nands, the last one first in the text.
        String below = Texts.NOT + Texts.chain("Five", "Not", 5) + Texts.chain("Sixty", "Five", 12);
        ChipDesk desk = Check.board(below + Texts.chain("All", "Sixty", 5));
        Check.due("pin(0)", desk.pin(0), 0);
        for (int v = 1; v <= 4; v++) {
            Check.outIs(desk, 0, v & 1, v);
            Check.due("gates(7)", desk.gates(7), 150);
        }
    }

    private static void noSuchPin() {
        Check.sentence(PROMISE, NONE);
        int[] beyond = {-1, -2, 8, 9, 256, 65536, Integer.MAX_VALUE, Integer.MIN_VALUE};
        for (int ins = 1; ins <= 7; ins++) {
            StringBuilder text = new StringBuilder("CHIP A{IN p1");
            for (int i = 2; i <= 8; i++) {
                text.append(i == ins + 1 ? ";OUT p" : ",p").append(i);
            }
            ChipDesk desk = Check.board(text + ";PARTS:}");
            for (int k = 0; k < 8; k++) {
                Check.due("drive(" + k + ", 0) of " + ins + " pins", desk.drive(k, 0), k < ins);
            }
            for (int k : beyond) {
                Check.due("drive(" + k + ", 0) of " + ins + " pins", desk.drive(k, 0), false);
            }
        }
    }

    private static void noBoard() {
        Check.sentence(PROMISE, NONE);
        Check.due("drive(0, 0) of a new object", new ChipDesk().drive(0, 0), false);
        ChipDesk unread = new ChipDesk();
        Check.write(unread, Texts.NOT);
        Check.due("drive(0, 0) ahead of a read", unread.drive(0, 0), false);
        for (int kind = 1; kind <= 6; kind++) {
            ChipDesk desk = Check.board(Texts.NOT);
            Check.fault(desk, kind, Texts.fault(kind));
            Check.due("drive(0, 0) behind fault " + kind, desk.drive(0, 0), false);
        }
    }

    private static void refusedChangesNothing() {
        Check.sentence(PROMISE, REFUSED);
        ChipDesk desk = Check.board("CHIP A{IN a,b[16];OUT o,p;PARTS:Nand(a=a,b=b[15],out=o);Dff(in=a,out=p);}");
        Check.outIs(desk, 0, 0, 1, 0x8000);
        Check.due("tick()", desk.tick(), 1);
        int[] beyond = {-1, 2, 3, 4, 8, Integer.MAX_VALUE, Integer.MIN_VALUE};
        for (int k : beyond) {
            Check.due("drive(" + k + ", 0)", desk.drive(k, 0), false);
            Check.due("drive(" + k + ", -1)", desk.drive(k, -1), false);
            Check.due("pin(0)", desk.pin(0), 0);
            Check.due("pin(1)", desk.pin(1), 1);
        }
        Check.counts("behind refused calls", desk, 1, 1, 2, 2, 1, 1, 1, 0);
        Check.due("tick()", desk.tick(), 0);
        Check.due("place()", desk.place(), -1);
    }
}
