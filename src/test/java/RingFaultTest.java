/** Promises 3 and 4: fault 6. */
public final class RingFaultTest {
    public static void main(String[] args) {
        chipsInThemselves();
        tooManyGates();
        tooManyBits();
        chipsInChips();
        ringsOfNands();
        comesBehindOtherFaults();
        Check.end();
    }

    private static String chip(String name, String... parts) {
        StringBuilder text = new StringBuilder("CHIP " + name + "{IN a;OUT o;PARTS:");
        for (String part : parts) {
            text.append(part).append("(a=a);");
        }
        return text.append('}').toString();
    }

    private static void chipsInThemselves() {
        Check.fault(6, "CHIP ^A{IN a;OUT o;PARTS:A(a=a);}");
        Check.fault(6, chip("A", "B") + "CHIP ^B{IN a;OUT o;PARTS:B(a=a);}");
        Check.fault(6, chip("A", "B") + "CHIP ^B{IN a;OUT o;PARTS:Nand(a=a);C(a=a);}" + chip("C", "D") + chip("D", "B"));
        Check.fault(6, "CHIP ^A{IN a;OUT o;PARTS:B(a=a);}" + chip("B", "C") + chip("C", "A"));
        // The board need not use the ring.
        Check.fault(6, "CHIP ^A{IN a;OUT o;PARTS:A(a=a);}" + chip("B", "Nand"));
        // Two rings: the first chip from the left that is in one.
        Check.fault(6, chip("A", "D") + "CHIP ^B{IN a;OUT o;PARTS:C(a=a);}" + chip("C", "B") + chip("D", "D"));
        Check.board(chip("A", "B", "C") + chip("B", "C") + chip("C"));
        Check.fault(6, "CHIP ^A{IN a;OUT o;PARTS:B(a=a);}" + chip("B", "C") + chip("C", "D") + chip("D", "E")
                + chip("E", "F") + chip("F", "G") + chip("G", "H") + chip("H", "A"));
    }

    private static String times(int n, String part) {
        return (part + "(a=a);").repeat(n);
    }

    private static void tooManyGates() {
        String below = "CHIP T{IN a;OUT o;PARTS:" + times(11, "Nand") + "Dff(in=a);}"
                + "CHIP U{IN a;OUT o;PARTS:" + times(12, "T") + "}";
        ChipDesk desk = Check.board(below + "CHIP A{IN a;OUT o;PARTS:" + times(2, "U") + times(1, "T") + "}");
        Check.due("gates(0)", desk.gates(0), 275);
        Check.due("gates(1)", desk.gates(1), 25);
        Check.fault(6, below + "CHIP A{IN a;OUT o;PARTS:" + times(2, "U") + times(1, "T") + "Dff(in=a);}^");
        Check.fault(6, below + "CHIP A{IN a;OUT o;PARTS:" + times(1, "Nand") + times(2, "U") + times(1, "T") + "} //^");
        // What is not in the board is not counted.
        Check.board(below + "CHIP B{IN a;OUT o;PARTS:" + times(12, "U") + "}" + chip("A", "T"));
    }

    /** E has 32 bits, F 386, G 4634, H with its Nand 115; the board itself 65 and its OUT pins. */
    private static void tooManyBits() {
        String below = "CHIP E{IN a[16];OUT o[16];PARTS:}"
                + "CHIP F{IN a;OUT o;PARTS:" + "E(a=true);".repeat(12) + "}"
                + "CHIP G{IN a;OUT o;PARTS:" + times(12, "F") + "}"
                + "CHIP H{IN a,b[15],c[16],d[16],e[16],f[16],g[16];OUT o[16];PARTS:Nand(a=a);}";
        String head = below + "CHIP A{IN a,b[16],c[16],d[16],e[16];OUT o[16],p[16],";
        String parts = "PARTS:F(a=a);H(a=a);" + times(1, "G") + times(7, "F") + "E(a=true);";
        Check.board(head + "q[2];" + parts + "E(a=false);}");
        Check.fault(6, head + "q[3];" + parts + "E(a=false);}^");
        // Without the last E there are 7982 bits: a gate and inner names fill them up.
        Check.board(head + "q[16];" + parts + "Nand(" + outLinks(15) + ");}");
        Check.fault(6, head + "q[16];" + parts + "Nand(" + outLinks(16) + ");}^");
        Check.board(head + "q[16];" + parts + "Dff(" + outLinks(16) + ");}");
        Check.fault(6, head + "q[16];" + parts + "Dff(" + outLinks(17) + ");}^");
    }

    private static String outLinks(int n) {
        StringBuilder links = new StringBuilder("out=x1");
        for (int i = 2; i <= n; i++) {
            links.append(",out=x").append(i);
        }
        return links.toString();
    }

    private static void chipsInChips() {
        StringBuilder wide = new StringBuilder(chip("C0"));
        StringBuilder deep = new StringBuilder(chip("C0", "Nand"));
        for (int i = 1; i < 8; i++) {
            wide.append("CHIP C" + i + "{IN a;OUT o;PARTS:" + times(12, "C" + (i - 1)) + "}");
            deep.append(chip("C" + i, "C" + (i - 1)));
        }
        Check.fault(6, wide + "^");
        ChipDesk desk = Check.board(deep.toString());
        Check.due("gates(0)", desk.gates(0), 1);
        Check.due("gates(7)", desk.gates(7), 1);
    }

    private static void ringsOfNands() {
        String head = "CHIP A{IN a;OUT o;PARTS:";
        String not = "CHIP Not{IN i;OUT u;PARTS:Nand(a=i,b=i,out=u);}";
        String keep = "CHIP Keep{IN i;OUT u;PARTS:Dff(in=i,out=u);}";
        Check.fault(6, head + "Nand(a=x,b=a,out=x);}^");
        Check.fault(6, head + "Nand(a=a,b=x,out=x);}^");
        Check.fault(6, head + "Nand(a=x,b=false,out=x);}^");
        Check.fault(6, head + "Nand(a=x,out=y);Nand(b=y,out=z);Nand(a=a,b=z,out=x);}^");
        Check.fault(6, not + head + "Not(i=x,u=y);Not(i=y,u=x);}^");
        Check.board(head + "Dff(in=x,out=x);}");
        Check.board(head + "Nand(a=x,b=y,out=y2);Dff(in=y2,out=x,out=y);}");
        Check.board(not + keep + head + "Not(i=x,u=y);Keep(i=y,u=x);}");
        // Only the board is asked for a ring of Nands.
        Check.board("CHIP B{IN a;OUT o;PARTS:Nand(a=x,out=x);}" + not);
        Check.fault(6, "CHIP B{IN a;OUT o;PARTS:Nand(a=x,out=x);}" + head + "B(a=a);}^");
        // A chip's pins lead back to it, but no Nand gets what it gives.
        Check.board("CHIP Two{IN i,j;OUT u,v;PARTS:Nand(a=i,out=u);Nand(a=j,out=v);}"
                + head + "Two(i=y,u=x,j=a,v=y);}");
        Check.fault(6, "CHIP Two{IN i,j;OUT u,v;PARTS:Nand(a=i,out=u);Nand(a=j,out=v);}"
                + head + "Two(i=y,u=x,j=x,v=y);}^");
    }

    private static void comesBehindOtherFaults() {
        Check.fault(5, chip("A", "A") + "CHIP B{IN a[^0];OUT o;PARTS:}");
        Check.fault(4, chip("A", "A") + "CHIP B{IN a;OUT o;PARTS:^C(a=a);}");
        Check.fault(6, "CHIP B{IN a;OUT o;PARTS:Nand(a=x,out=x);}CHIP ^C{IN a;OUT o;PARTS:C(a=a);}" + chip("D", "B"));
    }
}
