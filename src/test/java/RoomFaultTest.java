/** Promises 3 and 4: fault 2. */
public final class RoomFaultTest {
    /** 1000 tokens, with a fault 3 at the ^. */
    private static final String FULL = "CHIP A{IN a[1],b;OUT o;PARTS:Nand(a=a,^a=a" + ",a=a".repeat(243) + ");}";

    public static void main(String[] args) {
        tokens();
        chips();
        pins();
        parts();
        innerNames();
        firstFromTheLeft();
        Check.end();
    }

    private static void tokens() {
        Check.fault(3, FULL);
        Check.fault(3, FULL + " /* the end is no token */ // ");
        String full = FULL.replace("^", "");
        Check.fault(2, full + " ^CHIP");
        Check.fault(2, full + " ^CHIP B{IN a;OUT o;PARTS:}");
        Check.fault(1, full + " ^$");
        Check.fault(1, full + " ^/*");
        Check.fault(1, full.replace(";}", "}").replace(")}", ")^}") + "CHIP B{IN a;OUT o;PARTS:}");
    }

    private static String chip(String name) {
        return "CHIP " + name + "{IN a;OUT o;PARTS:}";
    }

    private static void chips() {
        StringBuilder text = new StringBuilder();
        for (int i = 0; i < 8; i++) {
            text.append(chip("C" + i));
        }
        ChipDesk desk = Check.board(text.toString());
        Check.due("gates(4)", desk.gates(4), 8);
        Check.fault(2, text + "CHIP ^C8{IN a;OUT o;PARTS:}");
        Check.fault(2, text + "CHIP ^C0");
        Check.fault(1, text + "CHIP ^IN");
        Check.fault(1, text + "CHIP^");
        Check.fault(1, text + "CHIP ^a2345678901234567");
    }

    private static void pins() {
        Check.board("CHIP A{IN a,b,c,d,e,f,g;OUT o;PARTS:}");
        Check.board("CHIP A{IN a;OUT b,c,d,e,f,g,o[16];PARTS:}");
        Check.fault(2, "CHIP A{IN a,b,c,d,e,f,g,h;OUT ^o;PARTS:}");
        Check.fault(2, "CHIP A{IN a,b,c,d;OUT e,f,g,h,^i;PARTS:}");
        Check.fault(2, "CHIP A{IN a,b,c,d,e,f,g,h,^i");
        Check.fault(2, "CHIP A{IN a,a,a,a,a,a,a,a,^a;OUT o;PARTS:}");
        Check.fault(1, "CHIP A{IN a,b,c,d,e,f,g,h,^;OUT o;PARTS:}");
        Check.board("CHIP A{IN a,b,c,d;OUT e,f,g,h;PARTS:}CHIP B{IN a,b,c,d;OUT e,f,g,h;PARTS:}");
    }

    private static void parts() {
        String head = "CHIP A{IN a;OUT o;PARTS:";
        String twelve = "Nand(a=a);".repeat(12);
        Check.board(head + twelve + "}");
        Check.fault(2, head + twelve + "^Nand(a=a);}");
        Check.fault(2, head + twelve + "^Foo");
        Check.fault(1, head + twelve + "^;");
        Check.board(head + twelve + "}CHIP B{IN a;OUT o;PARTS:" + twelve + "}");
    }

    private static String outLinks(int first, int last) {
        StringBuilder links = new StringBuilder();
        for (int i = first; i <= last; i++) {
            links.append(i == first ? "" : ",").append("out=x").append(i);
        }
        return links.toString();
    }

    private static void innerNames() {
        String head = "CHIP A{IN a;OUT o;PARTS:Nand(" + outLinks(1, 30);
        Check.board(head + ");Nand(a=x1,b=x30,out=o);Nand(a=a,b=x2);}");
        Check.fault(2, head + ",out=^x31);}");
        Check.fault(2, head + ");Nand(a=x1,b=^y);}");
        Check.fault(2, head + ");Nand(a=x1,out=^out);Nand(a=y2);}");
        Check.fault(2, head + ");Nand(a=^y[99..1]);}");
        Check.fault(2, head + ");Foo(a=a,a=o,a=x3,a=^y");
        Check.board(head + ");Nand(a=true,b=false);}");
        Check.board(head + ");}CHIP B{IN a;OUT o;PARTS:Nand(" + outLinks(31, 60) + ");}");
    }

    private static void firstFromTheLeft() {
        Check.fault(1, "CHIP A{IN a ^a,b,c,d,e,f,g,h,i;OUT o;PARTS:}");
        Check.fault(2, "CHIP A{IN a,b,c,d,e,f,g,h,^i[;OUT o;PARTS:}");
        Check.fault(2, "CHIP A{IN a,a,c,d,e[0],f,g,h;OUT ^i;PARTS:}");
    }
}
