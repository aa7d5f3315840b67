/** Promises 3 and 4: fault 1. */
public final class SyntaxFaultTest {
    private static final String HEAD = "CHIP A{IN a;OUT o;PARTS:";

    public static void main(String[] args) {
        endsEarly();
        badTokens();
        badComments();
        badChips();
        badPins();
        badParts();
        badLinks();
        comesAheadOfOtherFaults();
        Check.end();
    }

    /** Each token of a text is left out together with all that follows. */
    private static void endsEarly() {
        String[] tokens = "CHIP A { IN a [ 2 ] , b ; OUT o ; PARTS : Nand ( a = a [ 0 .. 0 ] , b = true ) ; }".split(" ");
        StringBuilder text = new StringBuilder();
        for (String token : tokens) {
            Check.fault(1, text + "^");
            Check.fault(1, text + " /* x */^");
            text.append(token).append(' ');
        }
        Check.board(text.toString());
    }

    private static void badTokens() {
        String[] bad = {"$", "\0", "\u00e9", "\u00ff", "_", "_a", ".", "/", "*", "-", "\"", "+", "\u000b", "\f",
            "abcdefgh012345678", "a23456789012345678901234567890"};
        for (String token : bad) {
            Check.fault(1, "^" + token);
            Check.fault(1, "CHIP ^" + token + "{IN a;OUT o;PARTS:}");
            Check.fault(1, HEAD + "^" + token);
            Check.fault(1, HEAD + "}^" + token);
        }
        String[] badNumbers = {"123", "000", "1a", "1_", "12x", "1A", "0x1", "9999999999999999999"};
        for (String number : badNumbers) {
            Check.fault(1, "CHIP A{IN a[^" + number + "];OUT o;PARTS:}");
            Check.fault(1, HEAD + "Nand(a[^" + number + "]=a);}");
            Check.fault(1, HEAD + "Nand(a[0..^" + number + "]=a);}");
        }
        Check.fault(1, HEAD + "Nand(a[0^.0]=a);}");
        Check.fault(1, HEAD + "Nand(a[0..^.0]=a);}");
        Check.fault(1, HEAD + "Nand(a[0^. .0]=a);}");
    }

    private static void badComments() {
        Check.fault(1, "^/*");
        Check.fault(1, "^/*/");
        Check.fault(1, "^/* * /");
        Check.fault(1, HEAD + "} ^/* CHIP *");
        Check.fault(1, HEAD + "^/ / x\n}");
        Check.fault(1, HEAD + "^/ * x */}");
        Check.fault(1, HEAD + "/* /* */ ^*/}");
        Check.fault(1, HEAD + "// } \r }^");
    }

    private static void badChips() {
        Check.fault(1, "^A{IN a;OUT o;PARTS:}");
        Check.fault(1, "^chip A{IN a;OUT o;PARTS:}");
        Check.fault(1, "CHIP ^{IN a;OUT o;PARTS:}");
        Check.fault(1, "CHIP ^IN{IN a;OUT o;PARTS:}");
        Check.fault(1, "CHIP ^12{IN a;OUT o;PARTS:}");
        Check.fault(1, "CHIP A ^B{IN a;OUT o;PARTS:}");
        Check.fault(1, "CHIP A{^OUT o;IN a;PARTS:}");
        Check.fault(1, "CHIP A{IN a;^PARTS:}");
        Check.fault(1, "CHIP A{IN a;OUT o;^}");
        Check.fault(1, "CHIP A{IN a;OUT o;PARTS^;}");
        Check.fault(1, HEAD + "}^}");
        Check.fault(1, HEAD + "}^A");
        Check.fault(1, HEAD + "}^;");
    }

    private static void badPins() {
        Check.fault(1, "CHIP A{IN ^;OUT o;PARTS:}");
        Check.fault(1, "CHIP A{IN a,^;OUT o;PARTS:}");
        Check.fault(1, "CHIP A{IN a ^b;OUT o;PARTS:}");
        Check.fault(1, "CHIP A{IN a^:OUT o;PARTS:}");
        Check.fault(1, "CHIP A{IN ^true;OUT o;PARTS:}");
        Check.fault(1, "CHIP A{IN a;OUT ^OUT;PARTS:}");
        Check.fault(1, "CHIP A{IN a[^];OUT o;PARTS:}");
        Check.fault(1, "CHIP A{IN a[^b];OUT o;PARTS:}");
        Check.fault(1, "CHIP A{IN a[1^..2];OUT o;PARTS:}");
        Check.fault(1, "CHIP A{IN a[1^;OUT o;PARTS:}");
        Check.fault(1, "CHIP A{IN a[1]^[1];OUT o;PARTS:}");
    }

    private static void badParts() {
        Check.fault(1, HEAD + "Nand^;}");
        Check.fault(1, HEAD + "Nand(^);}");
        Check.fault(1, HEAD + "Nand(a=a,^);}");
        Check.fault(1, HEAD + "Nand(a=a)^}");
        Check.fault(1, HEAD + "Nand(a=a^;}");
        Check.fault(1, HEAD + "Nand(a=a ^b=a);}");
        Check.fault(1, HEAD + "^true(a=a);}");
        Check.fault(1, HEAD + "^;}");
    }

    private static void badLinks() {
        Check.fault(1, HEAD + "Nand(a^);}");
        Check.fault(1, HEAD + "Nand(a=^);}");
        Check.fault(1, HEAD + "Nand(a^:a);}");
        Check.fault(1, HEAD + "Nand(^true=a);}");
        Check.fault(1, HEAD + "Nand(^1=a);}");
        Check.fault(1, HEAD + "Nand(a=^1);}");
        Check.fault(1, HEAD + "Nand(a=^IN);}");
        Check.fault(1, HEAD + "Nand(a=true^[0]);}");
        Check.fault(1, HEAD + "Nand(a=false^[0]);}");
        Check.fault(1, HEAD + "Nand(a[^]=a);}");
        Check.fault(1, HEAD + "Nand(a[0..^]=a);}");
        Check.fault(1, HEAD + "Nand(a[^..0]=a);}");
        Check.fault(1, HEAD + "Nand(a[0..0^..0]=a);}");
        Check.fault(1, HEAD + "Nand(a[0^=a);}");
        Check.fault(1, HEAD + "Nand(a=a[0^);}");
        Check.fault(1, HEAD + "Nand(a=a[0]^[0]);}");
    }

    private static void comesAheadOfOtherFaults() {
        Check.fault(1, "CHIP Nand{IN a,a[0];OUT a;PARTS:Foo(x=x);Nand(q=a[9]);}^x");
    }
}
