/** Promises 3 and 4: fault 3. */
public final class TwiceFaultTest {
    private static final String HEAD = "CHIP A{IN a,w[4];OUT o,v[4];PARTS:";
    private static final String FOUR = "CHIP F{IN i[4];OUT u[4];PARTS:}";

    public static void main(String[] args) {
        chips();
        pins();
        leftSides();
        outPins();
        innerNames();
        leastNumberOfOnePlace();
        othersMeanTheFirst();
        Check.end();
    }

    private static void chips() {
        Check.fault(3, "CHIP A{IN a;OUT o;PARTS:}CHIP B{IN a;OUT o;PARTS:}CHIP ^A{IN a;OUT o;PARTS:}");
        Check.fault(3, "CHIP ^Nand{IN a;OUT o;PARTS:}");
        Check.fault(3, "CHIP ^Dff{IN a;OUT o;PARTS:}");
        Check.board("CHIP nand{IN a;OUT o;PARTS:}CHIP DFF{IN a;OUT o;PARTS:}");
        Check.board("CHIP A{IN A;OUT Nand;PARTS:Nand(a=A,b=A,out=Nand);}");
    }

    private static void pins() {
        Check.fault(3, "CHIP A{IN a,b,^a;OUT o;PARTS:}");
        Check.fault(3, "CHIP A{IN a;OUT ^a;PARTS:}");
        Check.fault(3, "CHIP A{IN a;OUT o,^o[0];PARTS:}");
        Check.board("CHIP A{IN a;OUT o;PARTS:}CHIP B{IN a;OUT o;PARTS:}");
    }

    private static void leftSides() {
        Check.fault(3, HEAD + "Nand(a=a,^a=a);}");
        Check.fault(3, HEAD + "Nand(a=a,b=a,^a[0]=true);}");
        Check.fault(3, HEAD + "F(i[0..1]=w[0..1],^i[1..2]=w[0..1]);}" + FOUR);
        Check.fault(3, HEAD + "F(i[3]=a,^i=w);}" + FOUR);
        Check.board(HEAD + "F(i[0..1]=w[0..1],i[3]=a,i[2]=a);F(i=w);F(i=w);}" + FOUR);
        Check.board(HEAD + "Nand(a=a,b=a);Nand(a=a,b=a);}");
        Check.board(HEAD + "F(u=x,u=v,u[0..3]=y,u[0]=z,u[0]=o);}" + FOUR);
    }

    private static void outPins() {
        Check.fault(3, HEAD + "Nand(out=o,out=^o);}");
        Check.fault(3, HEAD + "Nand(out=o);Nand(out=^o[0]);}");
        Check.fault(3, HEAD + "F(u=v);Nand(out=^v[3]);}" + FOUR);
        Check.fault(3, HEAD + "Nand(out=v[2]);F(u=^v);}" + FOUR);
        Check.fault(3, HEAD + "F(u[0..1]=v[1..2]);F(u[2..3]=^v[2..3]);}" + FOUR);
        Check.board(HEAD + "F(u[0..1]=v[1..2]);Nand(out=v[0],out=v[3],out=o);}" + FOUR);
    }

    private static void innerNames() {
        Check.fault(3, HEAD + "Nand(out=x,out=^x);}");
        Check.fault(3, HEAD + "Nand(out=x);Nand(out=^x);}");
        Check.fault(3, HEAD + "Nand(out=x);Nand(out=^x[0]);}");
        Check.fault(3, HEAD + "Nand(a=x);Nand(out=x);F(u=^x);}" + FOUR);
        Check.board(HEAD + "Nand(a=x,b=x);Nand(a=x,b=x);Nand(out=x);}");
        Check.board("CHIP B{IN a;OUT o;PARTS:Nand(out=x);}" + HEAD + "Nand(out=x);}");
    }

    /** Bits linked twice (3) and unlike widths (5) stand at the same name. */
    private static void leastNumberOfOnePlace() {
        Check.fault(3, HEAD + "Nand(out=v[1]);Nand(out=^v[0..1]);}");
        Check.fault(3, HEAD + "Nand(out=v[1]);Nand(out=^v);}");
        // An OUT pin on the right side of an IN pin is fault 4, whether it is linked or not.
        Check.fault(4, HEAD + "Nand(out=o);Nand(a=^o);}");
    }

    private static void othersMeanTheFirst() {
        // The first F has no pin j, so that is the first fault from the left.
        Check.fault(4, HEAD + "F(^j=a);}" + FOUR + "CHIP F{IN j;OUT u;PARTS:}");
        Check.fault(3, HEAD + "F(i=w);}" + FOUR + "CHIP ^F{IN j;OUT u;PARTS:}");
        Check.fault(5, HEAD + "G(i=^w);}CHIP G{IN i,i[4];OUT u;PARTS:}");
        Check.fault(3, HEAD + "G(i=a);}CHIP G{IN i,^i[4];OUT u;PARTS:}");
        Check.fault(4, HEAD + "Nand(^x=a);}CHIP Nand{IN x;OUT u;PARTS:}");
        // Both links of x stand behind its use: the first tells its width.
        Check.fault(5, HEAD + "Nand(a=^x);F(u=x);Nand(out=x);}" + FOUR);
        Check.fault(3, HEAD + "Nand(a=x);Nand(out=x);F(u=^x);}" + FOUR);
    }
}
