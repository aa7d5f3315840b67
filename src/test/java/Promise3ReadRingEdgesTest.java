/** Promise 3, read: fault 6, the sentence about rings and about what a board has room for in 'Terms'. */
public final class Promise3ReadRingEdgesTest {
    private static final String PROMISE = "Promise 3, read, fault 6, ring";
    private static final String ITSELF = "a chip that is a part of itself, or of a part of itself, and so on: the first "
            + "from the left, at its name";
    private static final String GATES = "in the text's last chip, the BOARD, more than 300 gates";
    private static final String BITS = "more than 8000 bits (of pins and inner names of the board and of all that is in it, "
            + "gates too)";
    private static final String NANDS = "a Nand that gets what it gives by Nands alone";

    public static void main(String[] args) {
        partOfItself();
        partOfAPartOfItself();
        firstRingFromTheLeft();
        ringThatTheBoardDoesNotUse();
        chipsOneInTheOtherAreNoRing();
        nandsUpTo300();
        dffsUpTo300();
        bothGatesUpTo300();
        gatesOfTheBoardAlone();
        manyMoreGatesAndBits();
        bitsOfPins();
        bitsOfInnerNames();
        bitsOfGates();
        bitsOfTheBoardAlone();
        nandOfItself();
        nandsByNands();
        dffInTheRing();
        nandsOfTheBoardAlone();
        atTheTextsLength();
        Check.end();
    }

    private static void partOfItself() {
        Check.sentence(PROMISE, ITSELF);
        Check.fault(6, "CHIP ^A{IN a;OUT o;PARTS:A(a=a);}");
        Check.fault(6, " CHIP  ^A{IN a;OUT o;PARTS:Nand(a=a);A(a=a);}");
        Check.fault(6, Texts.NOT + "CHIP ^A{IN a;OUT o;PARTS:Not(a=a);A(a=a);}" + Texts.chip("B", ""));
        Check.fault(6, Texts.NOT + "CHIP ^A{IN a;OUT o;PARTS:A(a=a);Not(a=a);}" + Texts.chip("B", ""));
    }

    /** Rings of 2 to 8 chips, closed by the last one. */
    private static void partOfAPartOfItself() {
        Check.sentence(PROMISE, ITSELF);
        for (int length = 2; length <= 8; length++) {
            StringBuilder open = new StringBuilder();
            StringBuilder turned = new StringBuilder();
            for (int i = 2; i < length; i++) {
                open.append(Texts.chip("C" + i, "C" + (i + 1) + "(a=a);"));
                turned.append(Texts.chip("C" + i, "C" + (i - 1) + "(a=a);"));
            }
            Check.fault(6, "CHIP ^C1{IN a;OUT o;PARTS:C2(a=a);}" + open + Texts.chip("C" + length, "C1(a=a);"));
            Check.fault(6, "CHIP ^C1{IN a;OUT o;PARTS:C" + length + "(a=a);}" + turned
                    + Texts.chip("C" + length, "C" + (length - 1) + "(a=a);"));
            Check.board(Texts.chip("C1", "C2(a=a);") + open + Texts.chip("C" + length, "Nand(a=a);"));
        }
    }

    private static void firstRingFromTheLeft() {
        Check.sentence(PROMISE, ITSELF);
        // A has a ring in it, but is in none.
        Check.fault(6, Texts.chip("A", "B(a=a);") + "CHIP ^B{IN a;OUT o;PARTS:C(a=a);}" + Texts.chip("C", "B(a=a);"));
        Check.fault(6, Texts.chip("A", "") + "CHIP ^B{IN a;OUT o;PARTS:D(a=a);}" + Texts.chip("C", "C(a=a);")
                + Texts.chip("D", "B(a=a);"));
        Check.fault(6, Texts.chip("A", "D(a=a);") + Texts.chip("B", "D(a=a);") + Texts.chip("C", "A(a=a);B(a=a);")
                + "CHIP ^D{IN a;OUT o;PARTS:D(a=a);}");
    }

    private static void ringThatTheBoardDoesNotUse() {
        Check.sentence(PROMISE, ITSELF);
        Check.fault(6, "CHIP ^A{IN a;OUT o;PARTS:A(a=a);}" + Texts.NOT);
        // It comes ahead of what is asked of the board.
        Check.fault(6, "CHIP ^A{IN a;OUT o;PARTS:A(a=a);}" + Texts.chip("B", "Nand(a=x,out=x);"));
    }

    private static void chipsOneInTheOtherAreNoRing() {
        Check.sentence(PROMISE, ITSELF);
        StringBuilder deep = new StringBuilder(Texts.chip("C1", "Nand(a=a,b=a,out=o);"));
        for (int i = 2; i <= 8; i++) {
            deep.append(Texts.chip("C" + i, "C" + (i - 1) + "(a=a,o=o);"));
        }
        ChipDesk desk = Check.board(deep.toString());
        Check.outIs(desk, 0, 0, 1);
        Check.due("gates(0)", desk.gates(0), 1);
        Check.board(Texts.chip("A", "B(a=a);C(a=a);B(a=a);") + Texts.chip("B", "C(a=a);C(a=a);") + Texts.chip("C", ""));
    }

    private static void nandsUpTo300() {
        Check.sentence(PROMISE, GATES);
        String below = Texts.manyGates("Nand(a=a);");
        String full = "U(a=a);U(a=a);T(a=a);";
        Check.due("gates(0)", Check.board(below + Texts.chip("A", full)).gates(0), 300);
        Check.fault(6, below + Texts.chip("A", full + "Nand(a=a);") + "^");
        Check.fault(6, below + Texts.chip("A", "Nand(a=a);" + full) + "^");
        Check.fault(6, below + Texts.chip("A", full + "Dff(in=a);") + "^");
    }

    private static void dffsUpTo300() {
        Check.sentence(PROMISE, GATES);
        String below = Texts.manyGates("Dff(in=a);");
        String full = "T(a=a);U(a=a);U(a=a);";
        Check.due("gates(1)", Check.board(below + Texts.chip("A", full)).gates(1), 300);
        Check.fault(6, below + Texts.chip("A", full + "Dff(in=a);") + "^");
        Check.fault(6, below + Texts.chip("A", full + "Nand(a=a);") + "^");
    }

    private static void bothGatesUpTo300() {
        Check.sentence(PROMISE, GATES);
        String below = Texts.chip("T", Texts.times(6, "Nand(a=a);Dff(in=a);")) + Texts.chip("U", Texts.times(12, "T(a=a);"));
        ChipDesk desk = Check.board(below + Texts.chip("A", "U(a=a);U(a=a);" + Texts.times(5, "Nand(a=a);Dff(in=a);")));
        Check.due("gates(0)", desk.gates(0), 149);
        Check.due("gates(1)", desk.gates(1), 149);
        String full = "U(a=a);T(a=a);U(a=a);";
        Check.due("gates(0)", Check.board(below + Texts.chip("A", full)).gates(0), 150);
        Check.fault(6, below + Texts.chip("A", full + "Dff(in=a);") + "^");
    }

    private static void gatesOfTheBoardAlone() {
        Check.sentence(PROMISE, GATES);
        String below = Texts.manyGates("Nand(a=a);");
        String tooMany = Texts.chip("V", "U(a=a);U(a=a);U(a=a);");
        Check.due("gates(0)", Check.board(below + tooMany + Texts.chip("A", "T(a=a);")).gates(0), 12);
        Check.fault(6, below + tooMany + Texts.chip("A", "V(a=a);") + "^");
    }

    /** Far more than all that could be counted one by one. */
    private static void manyMoreGatesAndBits() {
        Check.sentence(PROMISE, BITS);
        StringBuilder gates = new StringBuilder(Texts.chip("C1", Texts.times(12, "Nand(a=a);")));
        StringBuilder empty = new StringBuilder(Texts.chip("C1", ""));
        for (int i = 2; i <= 8; i++) {
            String parts = Texts.times(12, "C" + (i - 1) + "(a=a);");
            gates.append(Texts.chip("C" + i, parts));
            empty.append(Texts.chip("C" + i, parts));
        }
        Check.fault(6, gates + "^");
        Check.fault(6, empty + "^");
    }

    /** The board has 7994 bits with its pins a, o and p: W has 128, and X, with 12 of them, 1538. */
    private static String bitsBoard(String pins, String parts) {
        return "CHIP W{IN a[16],b[16],c[16],d[16],e[16],f[16],g[16];OUT o[16];PARTS:}"
                + Texts.chip("X", Texts.times(12, "W(a=true);"))
                + "CHIP A{IN a[16];OUT o[16],p[16]" + pins + ";PARTS:" + Texts.times(5, "X(a=true);") + "W(a=a);" + parts + "}";
    }

    private static void bitsOfPins() {
        Check.sentence(PROMISE, BITS);
        Check.board(bitsBoard("", "W(a=a);"));
        Check.board(bitsBoard(",q[6]", "W(a=a);"));
        Check.fault(6, bitsBoard(",q[7]", "W(a=a);") + "^");
        Check.board(bitsBoard(",q[5],r", "W(a=a);"));
        Check.fault(6, bitsBoard(",q[5],r,s", "W(a=a);") + "^");
        // Linked or not, a pin has its bits.
        Check.board(bitsBoard(",q[6]", "W(a=a,b=a,c=a,o=o);"));
        Check.fault(6, bitsBoard(",q[7]", "W(a=a,b=a,c=a,o=o);") + "^");
    }

    private static void bitsOfInnerNames() {
        Check.sentence(PROMISE, BITS);
        Check.board(bitsBoard("", "W(a=a,o[0..5]=x);"));
        Check.fault(6, bitsBoard("", "W(a=a,o[0..6]=x);") + "^");
        Check.board(bitsBoard("", "W(a=a,o[0]=x1,o[0]=x2,o[0..3]=x3);"));
        Check.fault(6, bitsBoard("", "W(a=a,o[0]=x1,o[0]=x2,o[0..4]=x3);") + "^");
        // A name has its bits once, however often it is used.
        Check.board(bitsBoard("", "W(a=a,b[0..5]=x,c[0..5]=x,o[0..5]=x);"));
        // Inner names of the chips in the board count each time.
        String board = bitsBoard("", "W(a=a);Y(a=true);");
        Check.board(Texts.chip("E", "") + Texts.chip("Y", "E(o=x1,o=x2);") + board);
        Check.fault(6, Texts.chip("E", "") + Texts.chip("Y", "E(o=x1,o=x2,o=x3);") + board + "^");
    }

    private static void bitsOfGates() {
        Check.sentence(PROMISE, BITS);
        Check.board(bitsBoard("", "W(a=a);Nand(a=true);Nand(a=true);"));
        Check.fault(6, bitsBoard("", "W(a=a);Nand(a=true);Nand(out=x);") + "^");
        Check.board(bitsBoard("", "W(a=a);Dff(in=true);Dff(in=true);Dff(in=true);"));
        Check.fault(6, bitsBoard("", "W(a=a);Dff(in=true);Dff(in=true);Dff(out=x);") + "^");
        Check.board(bitsBoard(",q", "W(a=a);Nand(a=true);Dff(in=true);"));
        Check.fault(6, bitsBoard(",q[2]", "W(a=a);Nand(a=true);Dff(in=true);") + "^");
    }

    private static void bitsOfTheBoardAlone() {
        Check.sentence(PROMISE, BITS);
        Check.board(bitsBoard(",q[7]", "W(a=a);") + Texts.chip("B", ""));
        Check.board(bitsBoard(",q[4]", "W(a=a);") + Texts.chip("B", "A(a=true);"));
        Check.fault(6, bitsBoard(",q[5]", "W(a=a);") + Texts.chip("B", "A(a=true);") + "^");
    }

    private static void nandOfItself() {
        Check.sentence(PROMISE, NANDS);
        String head = "CHIP A{IN a;OUT o;PARTS:";
        Check.fault(6, head + "Nand(a=x,out=x);}^");
        Check.fault(6, head + "Nand(b=x,out=x);}^");
        Check.fault(6, head + "Nand(a=x,b=x,out=x,out=o);}^");
        Check.fault(6, head + "Nand(a=false,b=x,out=x);}^");
        Check.board(head + "Nand(a=a,b=a,out=x);}");
    }

    private static void nandsByNands() {
        Check.sentence(PROMISE, NANDS);
        for (int n = 2; n <= 12; n++) {
            String chain = Texts.chain("A", "Not", n);
            Check.board(Texts.NOT + chain);
            String ring = chain.replace("(a=a,", "(a=y,").replace(",o=o)", ",o=o,o=y)");
            Check.fault(6, Texts.NOT + ring + "^");
        }
        // Two ways that meet again are no ring.
        Check.board(Texts.chip("A", "Nand(a=x,b=y,out=o);Nand(a=z,out=x);Nand(a=z,out=y);Nand(a=a,out=z);"));
        Check.fault(6, Texts.chip("A", "Nand(a=x,b=y,out=o);Nand(a=z,out=x);Nand(a=z,out=y);Nand(a=a,b=y,out=z);") + "^");
        // The way through a chip's pins closes it only where the Nands in it do.
        String two = "CHIP Two{IN i,j;OUT u,v;PARTS:Nand(a=i,out=u);Nand(a=j,out=v);}";
        Check.board(two + Texts.chip("A", "Two(i=a,u=x,j=x,v=o);"));
        Check.fault(6, two + Texts.chip("A", "Two(i=y,u=x,j=x,v=y);") + "^");
    }

    private static void dffInTheRing() {
        Check.sentence(PROMISE, NANDS);
        Check.board(Texts.chip("A", "Dff(in=x,out=x);"));
        Check.board(Texts.chip("A", "Nand(a=x,b=x,out=y);Dff(in=y,out=x);"));
        Check.board(Texts.chip("A", "K(a=y,o=x);Nand(a=x,b=x,out=y);") + Texts.KEEP + Texts.chip("B", "A(a=a,o=o);"));
        // One way has a Dff, the other has none.
        Check.fault(6, Texts.chip("A", "Nand(a=x,b=y,out=y);Dff(in=y,out=x);") + "^");
    }

    private static void nandsOfTheBoardAlone() {
        Check.sentence(PROMISE, NANDS);
        String ring = Texts.chip("R", "Nand(a=x,out=x);");
        Check.board(ring + Texts.NOT);
        Check.board(ring + Texts.chip("S", "R(a=a);") + Texts.NOT);
        Check.fault(6, ring + Texts.chip("S", "R(a=a);") + "^");
    }

    private static void atTheTextsLength() {
        Check.sentence(PROMISE, "at the text's length");
        String ring = Texts.chip("A", "Nand(a=x,out=x);");
        Check.fault(6, ring + "^");
        Check.fault(6, ring + " \n^");
        Check.fault(6, ring + " // all of it^");
        Check.fault(6, ring + "/**/^");
        Check.fault(6, Texts.behindBlanks(2000, ring) + "^");
        Check.fault(6, ring + " ".repeat(2000 - ring.length()) + "^");
    }
}
