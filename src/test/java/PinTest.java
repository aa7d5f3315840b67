/** Promise 6: pin, and the ways from pin to pin. */
public final class PinTest {
    private static final String GATES = "CHIP Not{IN a;OUT o;PARTS:Nand(a=a,b=a,out=o);}"
            + "CHIP Xor{IN a,b;OUT o;PARTS:Nand(a=a,b=b,out=n);Nand(a=a,b=n,out=x);Nand(a=b,b=n,out=y);"
            + "Nand(a=x,b=y,out=o);}"
            + "CHIP Add{IN a,b,c;OUT s,d;PARTS:Xor(a=a,b=b,o=x);Xor(a=x,b=c,o=s);Nand(a=a,b=b,out=p);"
            + "Nand(a=x,b=c,out=q);Nand(a=p,b=q,out=d);}";

    public static void main(String[] args) {
        nand();
        asNumber();
        wrongPins();
        unlinkedBits();
        constants();
        ranges();
        adder();
        chipsAheadAndBehind();
        Check.end();
    }

    private static void nand() {
        ChipDesk desk = Check.board("CHIP A{IN a,b;OUT o;PARTS:Nand(a=a,b=b,out=o);}");
        for (int i = 0; i < 4; i++) {
            Check.outIs(desk, 0, i == 3 ? 0 : 1, i & 1, i >> 1);
        }
    }

    private static void asNumber() {
        ChipDesk desk = Check.board("CHIP A{IN a;OUT o[16],p[3];PARTS:Nand(a=a,b=a,out=o[15],out=o[2],out=p[1]);}");
        Check.due("pin(0)", desk.pin(0), 0x8004);
        Check.due("pin(1)", desk.pin(1), 2);
        Check.outIs(desk, 0, 0, 1);
        Check.due("pin(1)", desk.pin(1), 0);
    }

    private static void wrongPins() {
        ChipDesk desk = Check.board("CHIP A{IN a,b,c;OUT o,p;PARTS:}");
        int[] wrong = {-1, -3, 2, 3, 5, 8, Integer.MAX_VALUE, Integer.MIN_VALUE};
        for (int k : wrong) {
            Check.due("pin(" + k + ")", desk.pin(k), -1);
        }
        Check.due("pin(1)", desk.pin(1), 0);
        Check.due("pin(0) of no board", new ChipDesk().pin(0), -1);
    }

    private static void unlinkedBits() {
        ChipDesk desk = Check.board("CHIP E{IN i[2];OUT u[2];PARTS:Nand(a=i[0],b=i[1],out=u[1]);}"
                + "CHIP A{IN a;OUT o,p[2],q[2];PARTS:Nand(a=a,out=o);E(i[0]=a,u=p);E(i[1]=a,u[0]=q[1],u[1]=q[0]);}");
        Check.outIs(desk, 0, 1, 1);
        Check.due("pin(1)", desk.pin(1), 2);
        Check.due("pin(2)", desk.pin(2), 1);
    }

    private static void constants() {
        ChipDesk desk = Check.board("CHIP N{IN i[4];OUT u[4];PARTS:Nand(a=i[0],b=true,out=u[0]);"
                + "Nand(a=i[1],b=true,out=u[1]);Nand(a=true,b=i[2],out=u[2]);Nand(a=i[3],b=false,out=u[3]);}"
                + "CHIP A{IN a;OUT o[4],p[4],q[4];PARTS:N(i=true,u=o);N(i=false,u=p);"
                + "N(i[1..2]=true,i[0]=false,u=q);}");
        Check.due("pin(0)", desk.pin(0), 8);
        Check.due("pin(1)", desk.pin(1), 15);
        Check.due("pin(2)", desk.pin(2), 9);
    }

    /** The lowest bit goes to the lowest, on both sides of a link and through inner names. */
    private static void ranges() {
        ChipDesk desk = Check.board("CHIP N{IN i[4];OUT u[4];PARTS:Nand(a=i[0],b=i[0],out=u[0]);"
                + "Nand(a=i[1],b=i[1],out=u[1]);Nand(a=i[2],b=i[2],out=u[2]);Nand(a=i[3],b=i[3],out=u[3]);}"
                + "CHIP A{IN a[8];OUT o[8],p[4];PARTS:N(i=x,u=p);N(i[0..2]=a[5..7],i[3]=a[0],u[1..3]=o[0..2],u=x);"
                + "N(i[2..3]=a[1..2],u[2..3]=o[6..7]);}");
        for (int v = 0; v < 256; v += 3) {
            int moved = v >> 5 | (v & 1) << 3;
            Check.outIs(desk, 1, moved, v);
            int low = ~moved >> 1 & 7;
            int high = ~(v >> 1) & 3;
            Check.due("pin(0)", desk.pin(0), low | high << 6);
        }
    }

    private static void adder() {
        StringBuilder text = new StringBuilder(GATES);
        text.append("CHIP Add8{IN a[8],b[8];OUT s[8],c;PARTS:");
        for (int i = 0; i < 8; i++) {
            text.append("Add(a=a[" + i + "],b=b[" + i + "],c=" + (i == 0 ? "false" : "c" + i)
                    + ",s=s[" + i + "],d=" + (i == 7 ? "c" : "c" + (i + 1)) + ");");
        }
        ChipDesk desk = Check.board(text.append('}').toString());
        for (int i = 0; i < 60; i++) {
            int a = i * 37 & 255;
            int b = i * i * 11 + 5 & 255;
            Check.outIs(desk, 0, a + b & 255, a, b);
            Check.due("pin(1)", desk.pin(1), a + b >> 8);
        }
        Check.due("gates(0)", desk.gates(0), 88);
    }

    private static void chipsAheadAndBehind() {
        ChipDesk desk = Check.board("CHIP Not2{IN a;OUT o;PARTS:Not(a=x,o=o);Not(a=a,o=x);}" + GATES
                + "CHIP A{IN a;OUT o,p;PARTS:Not2(a=a,o=o,o=y);Not(a=y,o=p);}");
        for (int i = 0; i < 2; i++) {
            Check.outIs(desk, 0, i, i);
            Check.due("pin(1)", desk.pin(1), 1 - i);
        }
    }
}
