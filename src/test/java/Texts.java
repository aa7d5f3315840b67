/** Texts of chips that more than one test needs. */
final class Texts {
    static final String EMPTY = "CHIP A{IN a;OUT o;PARTS:}";
    static final String NOT = "CHIP Not{IN a;OUT o;PARTS:Nand(a=a,b=a,out=o);}";
    static final String KEEP = "CHIP K{IN a;OUT o;PARTS:Dff(in=a,out=o);}";

    /** N16 turns 16 bits: its OUT pin u is what its IN pin i is not. */
    static final String NOT16 = "CHIP N4{IN i[4];OUT u[4];PARTS:" + fourNands() + "}"
            + "CHIP N16{IN i[16];OUT u[16];PARTS:N4(i=i[0..3],u=u[0..3]);N4(i=i[4..7],u=u[4..7]);"
            + "N4(i=i[8..11],u=u[8..11]);N4(i=i[12..15],u=u[12..15]);}";

    /** A text for each fault from 1 on, with a ^ where the fault is. */
    private static final String[] FAULTS = {
        "CHIP A{IN a;OUT o;PARTS:}^}",
        "CHIP A{IN a,b,c,d,e,f,g,h;OUT ^o;PARTS:}",
        "CHIP A{IN a;OUT ^a;PARTS:}",
        "CHIP A{IN a;OUT o;PARTS:^Or(a=a);}",
        "CHIP A{IN a[^17];OUT o;PARTS:}",
        "CHIP ^A{IN a;OUT o;PARTS:A(a=a);}",
    };

    private Texts() {
    }

    static String fault(int kind) {
        return FAULTS[kind - 1];
    }

    private static String fourNands() {
        StringBuilder parts = new StringBuilder();
        for (int i = 0; i < 4; i++) {
            parts.append("Nand(a=i[" + i + "],b=true,out=u[" + i + "]);");
        }
        return parts.toString();
    }

    /** A chip with an IN pin a and an OUT pin o. */
    static String chip(String name, String parts) {
        return "CHIP " + name + "{IN a;OUT o;PARTS:" + parts + "}";
    }

    /** That many parts one beside the other. */
    static String times(int n, String part) {
        return part.repeat(n);
    }

    /** Chips T and U with 12 and with 144 of one gate, which gets its bits from IN pin a. */
    static String manyGates(String gate) {
        return chip("T", times(12, gate)) + chip("U", times(12, "T(a=a);"));
    }

    /** A chip of n parts, each behind the other, the last one first in the text. */
    static String chain(String name, String part, int n) {
        StringBuilder parts = new StringBuilder();
        for (int i = n; i >= 1; i--) {
            parts.append(part + "(a=" + (i == 1 ? "a" : "x" + (i - 1)) + ",o=" + (i == n ? "o" : "x" + i) + ");");
        }
        return chip(name, parts.toString());
    }

    /** The text with blanks ahead of it, so that it has that many bytes. */
    static String behindBlanks(int length, String text) {
        return " ".repeat(length - text.length()) + text;
    }
}
