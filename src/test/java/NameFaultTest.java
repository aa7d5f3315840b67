/** Promises 3 and 4: fault 4. */
public final class NameFaultTest {
    private static final String HEAD = "CHIP A{IN a,w[4];OUT o,v[4];PARTS:";
    private static final String FOUR = "CHIP F{IN i[4];OUT u[4];PARTS:Nand(out=n);}";

    public static void main(String[] args) {
        parts();
        leftSides();
        rightOfInPins();
        rightOfOutPins();
        firstFromTheLeft();
        Check.end();
    }

    private static void parts() {
        Check.fault(4, HEAD + "^Foo(a=a);}");
        Check.fault(4, HEAD + "^nand(a=a);}");
        Check.fault(4, HEAD + "Nand(a=a);^a(a=a);}");
        Check.board(HEAD + "F(i=w);}" + FOUR);
        Check.board(FOUR + HEAD + "F(i=w);}");
    }

    private static void leftSides() {
        Check.fault(4, HEAD + "Nand(^c=a);}");
        Check.fault(4, HEAD + "Nand(a=a,^in=a);}");
        Check.fault(4, HEAD + "Dff(^a=a);}");
        Check.fault(4, HEAD + "Dff(^o=a);}");
        Check.fault(4, HEAD + "F(^n=a);}" + FOUR);
        Check.fault(4, HEAD + "Nand(^A[99]=a);}");
    }

    private static void rightOfInPins() {
        Check.fault(4, HEAD + "Nand(a=^o);}");
        Check.fault(4, HEAD + "Nand(a=^v[9]);}");
        Check.fault(4, HEAD + "Nand(a=^x);}");
        Check.fault(4, HEAD + "Nand(a=^x[0]);}");
        Check.fault(4, HEAD + "Nand(a=a,b=^x);Nand(a=a,b=x);}");
        Check.fault(4, "CHIP B{IN a;OUT o;PARTS:Nand(out=x);}" + HEAD + "Nand(a=^x);}");
        Check.board(HEAD + "Nand(a=x,out=o);Nand(out=x);}");
    }

    private static void rightOfOutPins() {
        Check.fault(4, HEAD + "Nand(out=^a);}");
        Check.fault(4, HEAD + "Nand(out=^w[9]);}");
        Check.fault(4, HEAD + "Nand(out=^true);}");
        Check.fault(4, HEAD + "Nand(out=^false);}");
    }

    private static void firstFromTheLeft() {
        // The links of a part that is no chip, and those of no pin, give no inner name.
        Check.fault(4, HEAD + "Nand(a=^x);Foo(out=x);}");
        Check.fault(4, HEAD + "Nand(a=^x);Nand(put=x);}");
        // A name is inner even if the range on the left of its link is faulty.
        Check.fault(5, HEAD + "Nand(a=x,b=x);F(i=x);Nand(out^[1]=x);}" + FOUR);
        Check.fault(4, HEAD + "^Foo(a[9]=a,a=o);}CHIP A{IN a;OUT o;PARTS:}");
    }
}
