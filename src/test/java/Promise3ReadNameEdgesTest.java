/** Promise 3, read: fault 4, the sentence about names in 'Terms'. */
public final class Promise3ReadNameEdgesTest {
    private static final String PROMISE = "Promise 3, read, fault 4, name";
    private static final String HEAD = "CHIP A{IN a,w[16];OUT o,q[16];PARTS:";
    private static final String WIDE = "CHIP W{IN i[16],j;OUT u[16],v;PARTS:Nand(a=j,out=n);}";

    public static void main(String[] args) {
        partThatIsNoChip();
        leftSideThatIsNoPin();
        outPinOnTheRightOfAnInPin();
        nameThatNoPartLinks();
        inPinOnTheRightOfAnOutPin();
        constantOnTheRightOfAnOutPin();
        Check.end();
    }

    private static void partThatIsNoChip() {
        Check.sentence(PROMISE, "a part's name that is no chip");
        String[] others = {"nand", "NAND", "Nan", "Nandd", "dff", "Df", "Dfff", "w", "W1", "a", "o", "x", "in", "out"};
        for (String other : others) {
            Check.fault(4, HEAD + "Nand(out=x);^" + other + "(a=a);}" + WIDE);
        }
        Check.board(HEAD + "W(j=a);Nand(a=a);Dff(in=a);}" + WIDE);
        Check.board(WIDE + HEAD + "W(j=a);}");
        Check.fault(4, WIDE + HEAD + "W(j=a); ^V(j=a);}");
    }

    private static void leftSideThatIsNoPin() {
        Check.sentence(PROMISE, "a left side's that is no pin of it");
        String[] others = {"Nand(^c=a)", "Nand(^o=o)", "Nand(a=a,b=a, ^ou=o)", "Dff(^a=a)", "Dff(^In=a)", "W(^a=a)", "W(^out=a)",
            "W(^I=a)", "W(^W=a)", "W(j=a,u=q,^x=q)"};
        for (String other : others) {
            Check.fault(4, HEAD + other + ";}" + WIDE);
        }
        // An inner name of the part is no pin of it, and neither is one of the chip.
        Check.fault(4, HEAD + "W(^n=a);}" + WIDE);
        Check.fault(4, WIDE + HEAD + "W(v=x);W(^x=a);}");
    }

    private static void outPinOnTheRightOfAnInPin() {
        Check.sentence(PROMISE, "on the right side of an IN pin an OUT pin");
        Check.fault(4, HEAD + "Nand(a=^o);}");
        Check.fault(4, HEAD + "Nand(a= ^o[0]);}");
        Check.fault(4, HEAD + "Nand(a=^q[15]);}");
        Check.fault(4, HEAD + "W(i=^q);}" + WIDE);
        Check.fault(4, HEAD + "Nand(out=o);Dff(in=^o);}");
        Check.fault(4, HEAD + "Nand(out=o,a=^o);}");
    }

    private static void nameThatNoPartLinks() {
        Check.sentence(PROMISE, "or a name that no part of the chip links from an OUT pin");
        Check.fault(4, HEAD + "Nand(a=^x);}");
        Check.fault(4, HEAD + "Nand(a=^x);Nand(a=x,b=x);}");
        Check.fault(4, HEAD + "Nand(a=^x);}CHIP B{IN a;OUT o;PARTS:Nand(out=x);}");
        Check.fault(4, "CHIP B{IN a;OUT o;PARTS:Nand(out=x);}" + HEAD + "Nand(a=^x);}");
        Check.fault(4, HEAD + "Nand(a=^X);Nand(out=x);}");
        Check.fault(4, HEAD + "Nand(a=^Nand);}");
        Check.fault(4, HEAD + "Nand(a=^out);}");
        Check.fault(4, HEAD + "W(j=^n);}" + WIDE);
        Check.board(HEAD + "Nand(a=x,b=A,out=x1);Nand(out=x);W(v=A);}" + WIDE);
        // The part that links it may be the one that uses it.
        Check.board(HEAD + "Dff(in=x,out=x);}");
    }

    private static void inPinOnTheRightOfAnOutPin() {
        Check.sentence(PROMISE, "of an OUT pin an IN pin");
        Check.fault(4, HEAD + "Nand(out=^a);}");
        Check.fault(4, HEAD + "Nand(out= ^a[0]);}");
        Check.fault(4, HEAD + "Dff(out=^w[15]);}");
        Check.fault(4, HEAD + "W(u=^w);}" + WIDE);
        Check.board(HEAD + "Nand(out=o);Dff(out=q[15]);}");
    }

    private static void constantOnTheRightOfAnOutPin() {
        Check.sentence(PROMISE, "of an OUT pin true, false");
        Check.fault(4, HEAD + "Nand(out=^true);}");
        Check.fault(4, HEAD + "Nand(out= ^false);}");
        Check.fault(4, HEAD + "W(u=^true);}" + WIDE);
        Check.fault(4, HEAD + "W(u[0]=^false);}" + WIDE);
        Check.board(HEAD + "Nand(a=true,b=false);W(i=true,j=false);}" + WIDE);
    }
}
