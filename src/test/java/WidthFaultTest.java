/** Promises 3 and 4: fault 5. */
public final class WidthFaultTest {
    private static final String HEAD = "CHIP A{IN a,w[4];OUT o,v[4];PARTS:";
    private static final String FOUR = "CHIP F{IN i[4];OUT u[4];PARTS:}";

    public static void main(String[] args) {
        numbersOfBits();
        rangesOnTheLeft();
        rangesOnTheRight();
        rangesOfInnerNames();
        unlikeWidths();
        faultyThingsElsewhere();
        Check.end();
    }

    private static void numbersOfBits() {
        String[] wrong = {"0", "00", "17", "18", "99"};
        for (String number : wrong) {
            Check.fault(5, "CHIP A{IN a[^" + number + "];OUT o;PARTS:}");
            Check.fault(5, "CHIP A{IN a;OUT p,o[ ^" + number + " ];PARTS:}");
        }
        Check.board("CHIP A{IN a[1],b[16];OUT o[01],p[09];PARTS:}");
    }

    private static void rangesOnTheLeft() {
        Check.fault(5, HEAD + "Nand(a^[1]=a);}");
        Check.fault(5, HEAD + "Nand(out^[0..1]=v[0..1]);}");
        Check.fault(5, HEAD + "F(i^[4]=a);}" + FOUR);
        Check.fault(5, HEAD + "F(i^[0..4]=a);}" + FOUR);
        Check.fault(5, HEAD + "F(i^[2..1]=a);}" + FOUR);
        Check.fault(5, HEAD + "F(i^[99..98]=a);}" + FOUR);
        Check.fault(5, HEAD + "F(i^[4..3]=a);}" + FOUR);
        Check.fault(5, HEAD + "F(u ^[ 3 .. 2 ]=o);}" + FOUR);
        Check.board(HEAD + "F(i[0..3]=w,u[3..3]=o,u[03]=v[00]);}" + FOUR);
    }

    private static void rangesOnTheRight() {
        Check.fault(5, HEAD + "Nand(a=a^[1]);}");
        Check.fault(5, HEAD + "Nand(a=w^[4]);}");
        Check.fault(5, HEAD + "F(i=w^[0..4]);}" + FOUR);
        Check.fault(5, HEAD + "F(i=w^[3..0]);}" + FOUR);
        Check.fault(5, HEAD + "Nand(out=v^[4]);}");
        Check.fault(5, HEAD + "F(u[0..1]=v^[3..4]);}" + FOUR);
        Check.fault(5, HEAD + "F(u[0..1]=v^[3..2]);}" + FOUR);
        Check.board(HEAD + "Nand(a=w[3],out=v[3]);F(i=w[0..3],u[1..3]=v[0..2]);}" + FOUR);
    }

    private static void rangesOfInnerNames() {
        Check.fault(5, HEAD + "Nand(out=x^[0]);}");
        Check.fault(5, HEAD + "F(u=x);Nand(a=x^[0]);}" + FOUR);
        Check.fault(5, HEAD + "Nand(a=x^[0..0]);Nand(out=x);}");
    }

    private static void unlikeWidths() {
        Check.fault(5, HEAD + "Nand(a=^w);}");
        Check.fault(5, HEAD + "Nand(a=^w[0..1]);}");
        Check.fault(5, HEAD + "F(i=^a);}" + FOUR);
        Check.fault(5, HEAD + "F(i[0..1]=^w);}" + FOUR);
        Check.fault(5, HEAD + "F(u=^o);}" + FOUR);
        Check.fault(5, HEAD + "Nand(out=^v);}");
        Check.fault(5, HEAD + "F(u[0..2]=^v[0..1]);}" + FOUR);
        Check.fault(5, HEAD + "F(u=x);Nand(a=^x);}" + FOUR);
        Check.fault(5, HEAD + "Nand(a=^x);F(u=x);}" + FOUR);
        Check.fault(5, HEAD + "F(u[0..1]=x);F(i=^x);}" + FOUR);
        Check.board(HEAD + "F(u[0..1]=x);F(i[2..3]=x,i[0..1]=true);F(i=false);}" + FOUR);
    }

    private static void faultyThingsElsewhere() {
        // A pin with a faulty number of bits counts as 1 wide for the chips ahead.
        Check.fault(5, HEAD + "G(i=a,u=o);}CHIP G{IN i[^17];OUT u[0];PARTS:}");
        Check.fault(5, HEAD + "G(i=^w);}CHIP G{IN i[17];OUT u;PARTS:}");
        Check.fault(5, HEAD + "G(i^[0..3]=w);}CHIP G{IN i[99];OUT u;PARTS:}");
        Check.fault(5, HEAD + "F(i=^x);G(u=x);}" + FOUR + "CHIP G{IN i;OUT u[17];PARTS:}");
        // Where the left range of its link is faulty, an inner name's width is not asked ahead of it.
        Check.fault(5, HEAD + "F(i=x);Nand(a=x);F(u^[9]=x);}" + FOUR);
        // A faulty range on the right leaves the width that the left side tells.
        Check.fault(5, HEAD + "F(i=^x);Nand(out=x[0]);}" + FOUR);
        Check.fault(5, HEAD + "Nand(a=x);Nand(out=x^[0]);}");
    }
}
