/** Promise 6, pin: the sentences that name a boundary case. */
public final class Promise6PinEdgesTest {
    private static final String PROMISE = "Promise 6, pin";
    private static final String NUMBER = "The board's OUT pin k, as a number of its bits";
    private static final String NONE = "-1 if there is none such, or no board";
    private static final String UNLINKED = "A bit of an IN pin, or of an OUT pin, that is not linked is 0";

    public static void main(String[] args) {
        smallestAndLargestNumber();
        eachBitByItself();
        firstAndLastPin();
        noSuchPin();
        noBoard();
        refusedChangesNothing();
        unlinkedInPin();
        unlinkedOutPin();
        unlinkedBitsOfAPart();
        unlinkedPinsOfGates();
        Check.end();
    }

    private static void smallestAndLargestNumber() {
        Check.sentence(PROMISE, NUMBER);
        ChipDesk desk = Check.board(Texts.NOT16);
        Check.outIs(desk, 0, 0, -1);
        Check.outIs(desk, 0, 65535, 0);
        ChipDesk one = Check.board(Texts.NOT);
        Check.outIs(one, 0, 0, 1);
        Check.outIs(one, 0, 1, 0);
    }

    private static void eachBitByItself() {
        Check.sentence(PROMISE, NUMBER);
        for (int bit = 0; bit < 16; bit++) {
            ChipDesk desk = Check.board("CHIP A{IN a;OUT p,o[16],q;PARTS:Nand(out=o[" + bit + "]);}");
            Check.due("pin(0)", desk.pin(0), 0);
            Check.due("pin(1) with bit " + bit, desk.pin(1), 1 << bit);
            Check.due("pin(2)", desk.pin(2), 0);
        }
    }

    private static void firstAndLastPin() {
        Check.sentence(PROMISE, NUMBER);
        for (int k = 0; k < 7; k++) {
            ChipDesk desk = Check.board("CHIP A{IN a;OUT p0,p1,p2,p3,p4,p5,p6;PARTS:Nand(out=p" + k + ");}");
            for (int other = 0; other < 7; other++) {
                Check.due("pin(" + other + ")", desk.pin(other), other == k ? 1 : 0);
            }
            Check.due("pin(7)", desk.pin(7), -1);
        }
    }

    private static void noSuchPin() {
        Check.sentence(PROMISE, NONE);
        int[] beyond = {-1, -2, -8, 8, 9, 256, 65536, Integer.MAX_VALUE, Integer.MAX_VALUE - 6, Integer.MIN_VALUE};
        for (int outs = 1; outs <= 7; outs++) {
            StringBuilder text = new StringBuilder("CHIP A{IN p1");
            for (int i = 2; i <= 8; i++) {
                text.append(i == 9 - outs ? ";OUT p" : ",p").append(i);
            }
            ChipDesk desk = Check.board(text + ";PARTS:}");
            for (int k = 0; k < 8; k++) {
                Check.due("pin(" + k + ") of " + outs + " pins", desk.pin(k), k < outs ? 0 : -1);
            }
            for (int k : beyond) {
                Check.due("pin(" + k + ") of " + outs + " pins", desk.pin(k), -1);
            }
        }
    }

    private static void noBoard() {
        Check.sentence(PROMISE, NONE);
        Check.due("pin(0) of a new object", new ChipDesk().pin(0), -1);
        ChipDesk unread = new ChipDesk();
        Check.write(unread, Texts.NOT);
        Check.due("pin(0) ahead of a read", unread.pin(0), -1);
        for (int kind = 1; kind <= 6; kind++) {
            ChipDesk desk = Check.board(Texts.NOT);
            Check.fault(desk, kind, Texts.fault(kind));
            Check.due("pin(0) behind fault " + kind, desk.pin(0), -1);
        }
    }

    private static void refusedChangesNothing() {
        Check.sentence(PROMISE, "A call that is refused changes nothing");
        ChipDesk desk = Check.board(Texts.KEEP);
        Check.due("drive(0, 1)", desk.drive(0, 1), true);
        Check.due("tick()", desk.tick(), 1);
        Check.due("pin(1)", desk.pin(1), -1);
        Check.due("pin(-1)", desk.pin(-1), -1);
        Check.due("pin(0)", desk.pin(0), 1);
        Check.counts("behind refused calls", desk, 0, 1, 1, 1, 1, 0, 1, 0);
    }

    private static void unlinkedInPin() {
        Check.sentence(PROMISE, UNLINKED);
        // Not(a) is 1 where a is 0, and the way to a is long enough to meet a bit that an earlier part left.
        ChipDesk desk = Check.board(Texts.NOT + "CHIP A{IN a;OUT o,p;PARTS:Not(a=true,o=p);Not(o=o);}");
        Check.due("pin(0)", desk.pin(0), 1);
        Check.due("pin(1)", desk.pin(1), 0);
        // The board before had these bits linked.
        Check.newBoard(desk, Texts.NOT + "CHIP A{IN a;OUT o,p;PARTS:Not(o=p);Not(a=true,o=o);}");
        Check.due("pin(0)", desk.pin(0), 0);
        Check.due("pin(1)", desk.pin(1), 1);
    }

    private static void unlinkedOutPin() {
        Check.sentence(PROMISE, UNLINKED);
        ChipDesk desk = Check.board("CHIP A{IN a;OUT o[16],p;PARTS:}");
        Check.due("pin(0)", desk.pin(0), 0);
        Check.due("pin(1)", desk.pin(1), 0);
        Check.newBoard(desk, "CHIP A{IN a;OUT o[16],p;PARTS:Nand(out=o[1],out=o[14],out=p);}");
        Check.due("pin(0)", desk.pin(0), 0x4002);
        Check.newBoard(desk, "CHIP A{IN a;OUT o[16],p;PARTS:}");
        Check.due("pin(0)", desk.pin(0), 0);
        Check.due("pin(1)", desk.pin(1), 0);
    }

    private static void unlinkedBitsOfAPart() {
        Check.sentence(PROMISE, UNLINKED);
        // Of N16's IN pin only the outer bits are linked.
        ChipDesk desk = Check.board(Texts.NOT16 + "CHIP A{IN a;OUT o[16];PARTS:N16(i[0]=true,i[15]=true,u=o);}");
        Check.due("pin(0)", desk.pin(0), 0x7FFE);
        // Of E's OUT pin only one bit is linked in E; the others are 0 in A too.
        ChipDesk inner = Check.board("CHIP E{IN i;OUT u[16];PARTS:Nand(out=u[7]);}" + Texts.NOT16
                + "CHIP A{IN a;OUT o[16],p[16];PARTS:E(u=x,u=o);N16(i=x,u=p);}");
        Check.due("pin(0)", inner.pin(0), 0x80);
        Check.due("pin(1)", inner.pin(1), 0xFF7F);
    }

    private static void unlinkedPinsOfGates() {
        Check.sentence(PROMISE, UNLINKED);
        ChipDesk desk = Check.board("CHIP A{IN a;OUT o,p,q;PARTS:Nand(a=true,out=o);Nand(b=true,out=p);Dff(out=q);"
                + "Dff(in=true);}");
        Check.due("pin(0)", desk.pin(0), 1);
        Check.due("pin(1)", desk.pin(1), 1);
        Check.due("tick()", desk.tick(), 1);
        Check.due("pin(2)", desk.pin(2), 0);
        Check.due("tick()", desk.tick(), 0);
    }
}
