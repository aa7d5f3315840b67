/** Promise 3, read: the sentences of 'Terms' about pins, gates and links. */
public final class Promise3ReadLinksEdgesTest {
    private static final String PROMISE = "Promise 3, read, Terms, pins and links";
    private static final String WIDTH = "A PIN has a WIDTH, 1 .. 16 (1 if none is told): bits 0, 1, ..";
    private static final String GATES = "Nand (IN a, b; OUT out: 0 if both are 1, else 1) and Dff (IN in; OUT out), "
            + "all pins of width 1";
    private static final String PARTS = "a pin of the part (a gate, or a chip of the text, ahead or behind)";
    private static final String LEFT = "all its bits, or bit i, or bits i .. j";
    private static final String RIGHT_OF_IN = "an IN pin of the chip (with a range or without), or an INNER name "
            + "(without), or true or false (all bits 1, 0)";
    private static final String RIGHT_OF_OUT = "if it is OUT: an OUT pin of the chip (with a range or without), or an "
            + "inner name (without), which is that width";
    private static final String SAME = "Both sides have the same width; the lowest bit goes to the lowest";
    private static final String INNER = "An inner name may be used ahead of where it is linked, and as often as one likes; "
            + "it need not be used";

    /** A board with 16 bits on both sides, and parts that turn 16 bits. */
    private static final String HEAD = Texts.NOT16 + "CHIP A{IN a[16];OUT o[16];PARTS:";

    public static void main(String[] args) {
        widthOf1();
        widthOf16();
        widthThatIsNotTold();
        highestBit();
        gatesAreOneBitWide();
        gatesHaveThesePins();
        partsAheadAndBehind();
        leftSides();
        rightSidesOfInPins();
        constantsOf16Bits();
        rightSidesOfOutPins();
        innerNameHasTheWidthOfItsLink();
        lowestGoesToTheLowest();
        innerNameAheadOfItsLink();
        innerNameOftenAndNever();
        Check.end();
    }

    private static void widthOf1() {
        Check.sentence(PROMISE, WIDTH);
        ChipDesk desk = Check.board("CHIP A{IN a[1];OUT o[1];PARTS:Nand(a=a,b=a,out=o);}");
        Check.outIs(desk, 0, 1, 0);
        Check.outIs(desk, 0, 0, 1);
        Check.outIs(desk, 0, 1, 2);
        Check.fault(5, "CHIP A{IN a[^0];OUT o;PARTS:}");
        Check.fault(5, "CHIP A{IN a;OUT o[^0];PARTS:}");
    }

    private static void widthOf16() {
        Check.sentence(PROMISE, WIDTH);
        ChipDesk desk = Check.board(HEAD + "N16(i=a,u=o);}");
        Check.outIs(desk, 0, 0xFFFF, 0);
        Check.outIs(desk, 0, 0, 0xFFFF);
        Check.outIs(desk, 0, 0x7FFF, 0x8000);
        Check.fault(5, "CHIP A{IN a[^17];OUT o;PARTS:}");
        Check.fault(5, "CHIP A{IN a;OUT o[^17];PARTS:}");
    }

    private static void widthThatIsNotTold() {
        Check.sentence(PROMISE, WIDTH);
        ChipDesk desk = Check.board("CHIP A{IN a;OUT o;PARTS:Nand(a=a[0],b=a[0..0],out=o[0]);}");
        Check.outIs(desk, 0, 1, 2);
        Check.outIs(desk, 0, 0, 3);
        Check.fault(5, "CHIP A{IN a;OUT o;PARTS:Nand(a=a^[1]);}");
        Check.fault(5, "CHIP A{IN a;OUT o;PARTS:Nand(out=o^[1]);}");
    }

    private static void highestBit() {
        Check.sentence(PROMISE, WIDTH);
        for (int width = 1; width <= 16; width++) {
            String head = "CHIP A{IN a[" + width + "];OUT o[" + width + "];PARTS:";
            int high = width - 1;
            ChipDesk desk = Check.board(head + "Nand(a=a[" + high + "],b=true,out=o[" + high + "]);}");
            Check.outIs(desk, 0, 1 << high, ~(1 << high));
            Check.outIs(desk, 0, 0, 1 << high);
            Check.fault(5, head + "Nand(a=a^[" + width + "]);}");
            Check.fault(5, head + "Nand(out=o^[" + width + "]);}");
        }
    }

    private static void gatesAreOneBitWide() {
        Check.sentence(PROMISE, GATES);
        String[] pins = {"Nand(a", "Nand(b", "Nand(out", "Dff(in", "Dff(out"};
        for (String pin : pins) {
            String right = pin.endsWith("out") ? "o" : "a";
            String head = "CHIP A{IN a,c[2];OUT o,d[2];PARTS:" + pin;
            Check.board(head + "=" + right + ");}");
            Check.board(head + "[0]=" + right + ");}");
            Check.board(head + "[0..0]=" + right + ");}");
            Check.fault(5, head + "^[1]=" + right + ");}");
            Check.fault(5, head + "^[0..1]=" + (right.equals("a") ? "c" : "d") + ");}");
            Check.fault(5, head + "=^" + (right.equals("a") ? "c" : "d") + ");}");
        }
    }

    private static void gatesHaveThesePins() {
        Check.sentence(PROMISE, GATES);
        ChipDesk desk = Check.board("CHIP A{IN a,b;OUT o,p;PARTS:Nand(a=a,b=b,out=o);Dff(in=a,out=p);}");
        int[] wants = {1, 1, 1, 0};
        for (int i = 0; i < 4; i++) {
            Check.outIs(desk, 0, wants[i], i & 1, i >> 1);
            Check.due("pin(1) ahead of a tick", desk.pin(1), 0);
        }
        Check.due("tick()", desk.tick(), 1);
        Check.due("pin(1) behind a tick", desk.pin(1), 1);
        String[] others = {"Nand(^in=a)", "Nand(^c=a)", "Nand(^A=a)", "Nand(^o=o)", "Nand(^ou=o)", "Nand(^outt=o)",
            "Dff(^a=a)", "Dff(^b=a)", "Dff(^i=a)", "Dff(^inn=a)", "Dff(^o=o)"};
        for (String other : others) {
            Check.fault(4, "CHIP A{IN a;OUT o;PARTS:" + other + ";}");
        }
    }

    private static void partsAheadAndBehind() {
        Check.sentence(PROMISE, PARTS);
        String one = Texts.chip("One", "Not(a=a,o=o);");
        String two = Texts.chip("Two", "One(a=a,o=x);Not(a=x,o=o);");
        Check.outIs(Check.board(Texts.NOT + one + two), 0, 1, 1);
        Check.outIs(Check.board(one + Texts.NOT + two), 0, 1, 1);
        Check.outIs(Check.board(two + one + Texts.NOT + Texts.chip("A", "Two(a=a,o=o);")), 0, 1, 1);
        Check.outIs(Check.board(two + one + Texts.NOT), 0, 0, 1);
    }

    private static void leftSides() {
        Check.sentence(PROMISE, LEFT);
        String[] wholes = {"i", "i[0..15]"};
        for (String whole : wholes) {
            Check.outIs(Check.board(HEAD + "N16(" + whole + "=a,u=o);}"), 0, 0x5AA5, 0xA55A);
        }
        for (int bit = 0; bit < 16; bit++) {
            ChipDesk desk = Check.board(HEAD + "N16(i[" + bit + "]=a[0],u=o);}");
            Check.outIs(desk, 0, 0xFFFF, 0xFFFE);
            Check.outIs(desk, 0, 0xFFFF & ~(1 << bit), 1);
        }
        ChipDesk desk = Check.board(HEAD + "N16(i[0..0]=a[7],i[1..14]=a[1..14],i[15..15]=a[8],u=o);}");
        Check.outIs(desk, 0, 0xFFFF, 0x8001);
        Check.outIs(desk, 0, 0xFF7E, 0x80);
        Check.outIs(desk, 0, 0x7EFF, 0x100);
        Check.fault(5, HEAD + "N16(i^[16]=a[0]);}");
        Check.fault(5, HEAD + "N16(i^[1..16]=a);}");
    }

    private static void rightSidesOfInPins() {
        Check.sentence(PROMISE, RIGHT_OF_IN);
        Check.outIs(Check.board(HEAD + "N16(i=a[0..15],u=o);}"), 0, 0x5AA5, 0xA55A);
        Check.outIs(Check.board(HEAD + "N16(i=a,u=x);N16(i=x,u=o);}"), 0, 0xA55A, 0xA55A);
        Check.fault(5, HEAD + "N16(i=a,u=x);N16(i=x^[0..15],u=o);}");
        Check.fault(5, HEAD + "N16(i=a,u[0]=x);N16(i[0]=x^[0],u=o);}");
        Check.fault(4, HEAD + "N16(i=^o);}");
    }

    private static void constantsOf16Bits() {
        Check.sentence(PROMISE, RIGHT_OF_IN);
        Check.outIs(Check.board(HEAD + "N16(i=true,u=o);}"), 0, 0);
        Check.outIs(Check.board(HEAD + "N16(i=false,u=o);}"), 0, 0xFFFF);
        Check.outIs(Check.board(HEAD + "N16(i[0]=true,u=o);}"), 0, 0xFFFE);
        Check.outIs(Check.board(HEAD + "N16(i[15]=true,u=o);}"), 0, 0x7FFF);
        Check.outIs(Check.board(HEAD + "N16(i[4..11]=true,i[0..3]=false,u=o);}"), 0, 0xF00F);
    }

    private static void rightSidesOfOutPins() {
        Check.sentence(PROMISE, RIGHT_OF_OUT);
        Check.outIs(Check.board(HEAD + "N16(u=o[0..15]);}"), 0, 0xFFFF);
        Check.outIs(Check.board(HEAD + "N16(u[0]=o[15]);}"), 0, 0x8000);
        Check.outIs(Check.board(HEAD + "N16(u[15]=o[0]);}"), 0, 1);
        Check.outIs(Check.board(HEAD + "N16(u[1..15]=o[0..14]);}"), 0, 0x7FFF);
        Check.fault(5, HEAD + "N16(u=x^[0..15]);}");
        Check.fault(5, HEAD + "N16(u=o^[0..16]);}");
        Check.fault(4, HEAD + "N16(u=^a);}");
    }

    private static void innerNameHasTheWidthOfItsLink() {
        Check.sentence(PROMISE, RIGHT_OF_OUT);
        for (int width = 1; width <= 16; width++) {
            String head = HEAD + "N16(i=a,u[0.." + (width - 1) + "]=x);";
            ChipDesk desk = Check.board(head + "N16(i[0.." + (width - 1) + "]=x,u=o);}");
            Check.outIs(desk, 0, 0xFFFF >> width << width, 0);
            if (width < 16) {
                Check.fault(5, head + "N16(i[0.." + width + "]=^x);}");
            }
            if (width > 1) {
                Check.fault(5, head + "N16(i[0.." + (width - 2) + "]=^x);}");
            }
        }
    }

    private static void lowestGoesToTheLowest() {
        Check.sentence(PROMISE, SAME);
        for (int shift = 0; shift < 16; shift++) {
            int high = 15 - shift;
            ChipDesk desk = Check.board(HEAD + "N16(i[0.." + high + "]=a[" + shift + "..15],u[" + shift + "..15]=x);"
                    + "N16(i[" + shift + "..15]=x,u[0.." + high + "]=o[" + shift + "..15]);}");
            int[] values = {0, 1, 0x8000, 0xA5C3, 0xFFFF};
            for (int v : values) {
                int first = ~(v >> shift) & 0xFFFF;
                int second = ~(first >> shift << shift) & 0xFFFF;
                Check.outIs(desk, 0, second << shift & 0xFFFF, v);
            }
        }
    }

    private static void innerNameAheadOfItsLink() {
        Check.sentence(PROMISE, INNER);
        ChipDesk desk = Check.board(HEAD + "N16(i=x,u=o);N16(i=a,u=x);}");
        Check.outIs(desk, 0, 0x1234, 0x1234);
        Check.fault(5, HEAD + "N16(i=^x,u=o);N16(i=a,u[0..14]=x);}");
    }

    private static void innerNameOftenAndNever() {
        Check.sentence(PROMISE, INNER);
        String often = Texts.times(5, "Nand(a=x,b=x);");
        ChipDesk desk = Check.board("CHIP A{IN a;OUT o;PARTS:" + often + "Nand(a=a,b=a,out=x,out=y);" + often
                + "Nand(a=x,b=x,out=o);}");
        Check.outIs(desk, 0, 1, 1);
        Check.due("gates(7)", desk.gates(7), 11);
    }
}
