/** Promise 3, read: fault 3, the sentence about what stands twice in 'Terms'. */
public final class Promise3ReadTwiceEdgesTest {
    private static final String PROMISE = "Promise 3, read, fault 3, twice";
    private static final String LEFT = "on a left side a bit of an IN pin that the same part has linked (at the name)";
    private static final String OUT = "on the right side an OUT pin one of whose bits told there is linked (at it)";
    private static final String INNER = "or an inner name that is linked from an OUT pin (at it)";

    /** W has 16 bits on both sides, and so has the board. */
    private static final String WIDE = "CHIP W{IN i[16],j;OUT u[16],v;PARTS:}";
    private static final String HEAD = WIDE + "CHIP A{IN a,w[16];OUT o,q[16];PARTS:";

    public static void main(String[] args) {
        chipsName();
        gatesName();
        pinsName();
        pinsNameInAnotherChip();
        leftBitsNextToEachOther();
        leftBitsThatMeet();
        leftBitsOfAnotherPart();
        leftOutPinsMayStandOften();
        outBitsNextToEachOther();
        outBitsThatMeet();
        outBitsOfAnotherChip();
        innerName();
        innerNameIsNotLinkedByItsUse();
        Check.end();
    }

    private static void chipsName() {
        Check.sentence(PROMISE, "a chip's name that is told");
        Check.board(Texts.chip("A", "") + Texts.chip("a", "") + Texts.chip("A1", ""));
        Check.fault(3, Texts.chip("A", "") + "CHIP ^A{IN a;OUT o;PARTS:}");
        Check.fault(3, Texts.chip("A", "") + Texts.chip("B", "") + "CHIP /**/ ^B{IN a;OUT o;PARTS:}" + Texts.chip("A", ""));
        Check.fault(3, Texts.chip("A", "") + Texts.chip("B", "") + "CHIP ^A{IN i;OUT u;PARTS:}");
        StringBuilder seven = new StringBuilder();
        for (int i = 1; i <= 7; i++) {
            seven.append(Texts.chip("C" + i, ""));
        }
        Check.fault(3, seven + "CHIP ^C1{IN a;OUT o;PARTS:}");
        Check.fault(3, seven + "CHIP ^C7{IN a;OUT o;PARTS:}");
    }

    private static void gatesName() {
        Check.sentence(PROMISE, "or a gate's");
        Check.fault(3, "CHIP ^Nand{IN a;OUT o;PARTS:}");
        Check.fault(3, Texts.chip("A", "") + "CHIP ^Dff{IN a;OUT o;PARTS:}");
        Check.board(Texts.chip("NAND", "") + Texts.chip("nand", "") + Texts.chip("Nan", "") + Texts.chip("Nand2", "")
                + Texts.chip("DFF", "") + Texts.chip("Df", "") + Texts.chip("Dfff", ""));
    }

    private static void pinsName() {
        Check.sentence(PROMISE, "a pin's in one chip");
        Check.fault(3, "CHIP A{IN a,^a;OUT o;PARTS:}");
        Check.fault(3, "CHIP A{IN a,b, ^a[16];OUT o;PARTS:}");
        Check.fault(3, "CHIP A{IN a;OUT ^a;PARTS:}");
        Check.fault(3, "CHIP A{IN a;OUT o,^o;PARTS:}");
        Check.fault(3, "CHIP A{IN p1,p2,p3,p4;OUT p5,p6,p7,^p1;PARTS:}");
        Check.fault(3, "CHIP A{IN p1,p2,p3,p4;OUT p5,p6,p7,^p7;PARTS:}");
        Check.board("CHIP A{IN a,A;OUT o,O,a1;PARTS:}");
        // A chip and its pins, and a gate and a pin, may have one name.
        Check.board("CHIP A{IN A,Nand;OUT Dff;PARTS:}");
    }

    private static void pinsNameInAnotherChip() {
        Check.sentence(PROMISE, "a pin's in one chip");
        Check.board("CHIP A{IN a;OUT o;PARTS:}CHIP B{IN a;OUT o;PARTS:}CHIP C{IN o;OUT a;PARTS:}");
    }

    private static void leftBitsNextToEachOther() {
        Check.sentence(PROMISE, LEFT);
        Check.board(HEAD + "W(i[0..7]=w[0..7],i[8..15]=w[8..15],j=a);}");
        for (int bit = 1; bit < 15; bit++) {
            String low = "i[0.." + (bit - 1) + "]=true";
            String high = "i[" + (bit + 1) + "..15]=true";
            Check.board(HEAD + "W(" + high + "," + low + ",i[" + bit + "]=a);}");
        }
    }

    private static void leftBitsThatMeet() {
        Check.sentence(PROMISE, LEFT);
        Check.fault(3, HEAD + "Nand(a=a,^a=a);}");
        Check.fault(3, HEAD + "Nand(a=a,b=a, ^a[0]=a);}");
        Check.fault(3, HEAD + "Dff(in=a,^in=true);}");
        Check.fault(3, HEAD + "W(i=w,^i=w);}");
        Check.fault(3, HEAD + "W(i[0]=a,i[1]=a,i[2..15]=true,j=a,^i[0]=a);}");
        for (int bit = 0; bit < 16; bit++) {
            Check.fault(3, HEAD + "W(i[" + bit + "]=a,^i=w);}");
            Check.fault(3, HEAD + "W(i=w,^i[" + bit + "]=a);}");
            Check.fault(3, HEAD + "W(i[0.." + bit + "]=true,^i[" + bit + "..15]=false);}");
            Check.fault(3, HEAD + "W(i[" + bit + "..15]=true,j=a,^i[0.." + bit + "]=false);}");
        }
    }

    private static void leftBitsOfAnotherPart() {
        Check.sentence(PROMISE, LEFT);
        Check.board(HEAD + "W(i=w,j=a);W(i=w,j=a);Nand(a=a,b=a);Nand(a=a,b=a);Dff(in=a);Dff(in=a);}");
        Check.fault(3, HEAD + "W(i=w);W(i=w,^i[0]=a);}");
    }

    private static void leftOutPinsMayStandOften() {
        Check.sentence(PROMISE, LEFT);
        Check.board(HEAD + "W(u=x,u=y,u=q,u[0]=o,u[0..0]=z);Nand(out=n,out=m);}");
    }

    private static void outBitsNextToEachOther() {
        Check.sentence(PROMISE, OUT);
        for (int bit = 1; bit < 15; bit++) {
            Check.board(HEAD + "W(u[0.." + (bit - 1) + "]=q[0.." + (bit - 1) + "],u[0]=q[" + bit + "]);"
                    + "W(u[" + (bit + 1) + "..15]=q[" + (bit + 1) + "..15]);}");
        }
    }

    private static void outBitsThatMeet() {
        Check.sentence(PROMISE, OUT);
        Check.fault(3, HEAD + "Nand(out=o,out=^o);}");
        Check.fault(3, HEAD + "Nand(out=o);Nand(out= ^o[0]);}");
        Check.fault(3, HEAD + "W(u=q);W(u=^q);}");
        Check.fault(3, HEAD + "W(u[0]=q[0],u[1]=q[1]);W(u[2]=q[2],v=o);Nand(out=^q[0]);}");
        // Also where the chip is a part of itself in between.
        Check.fault(3, Texts.chip("A", "Nand(out=o);A(a=a,o=x);Nand(out=^o);"));
        for (int bit = 0; bit < 16; bit++) {
            String low = "[0.." + bit + "]";
            String high = "[" + bit + "..15]";
            Check.fault(3, HEAD + "Nand(out=q[" + bit + "]);W(u=^q);}");
            Check.fault(3, HEAD + "W(u=q);Nand(out=^q[" + bit + "]);}");
            Check.fault(3, HEAD + "W(u" + low + "=q" + low + ",u" + high + "=^q" + high + ");}");
            Check.fault(3, HEAD + "W(u" + high + "=q" + high + ");W(u" + low + "=^q" + low + ");}");
        }
    }

    private static void outBitsOfAnotherChip() {
        Check.sentence(PROMISE, OUT);
        Check.board(Texts.chip("A", "Nand(out=o);") + Texts.chip("B", "Nand(out=o);A(o=x);") + Texts.chip("C", "B(o=o);A(o=x);"));
    }

    private static void innerName() {
        Check.sentence(PROMISE, INNER);
        Check.board(HEAD + "Nand(out=x,out=y);W(u=z);}");
        Check.fault(3, HEAD + "Nand(out=x,out=^x);}");
        Check.fault(3, HEAD + "Nand(out=x);Nand(a=x,out= ^x);}");
        Check.fault(3, HEAD + "W(u[0]=x,u[1]=^x);}");
        Check.fault(3, HEAD + "Nand(out=x);Nand(out=^x[0]);}");
        Check.fault(3, HEAD + "Nand(out=x);W(u=^x);}");
        Check.board(Texts.chip("A", "Nand(out=x);") + Texts.chip("B", "Nand(out=x);"));
    }

    private static void innerNameIsNotLinkedByItsUse() {
        Check.sentence(PROMISE, INNER);
        Check.board(HEAD + "Nand(a=x,b=x);W(j=x);Nand(out=x);Nand(a=x,b=x);W(j=x);}");
        Check.fault(3, HEAD + "Nand(a=x);Nand(out=x);Nand(out=^x);}");
    }
}
