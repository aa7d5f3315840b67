/** Promise 3, read: fault 5, the sentence about widths in 'Terms'. */
public final class Promise3ReadWidthEdgesTest {
    private static final String PROMISE = "Promise 3, read, fault 5, width";
    private static final String BEYOND = "a range beyond its pin (at its [)";
    private static final String BELOW = "a range whose second is below the first (at its [)";
    private static final String UNLIKE = "sides of unlike widths (at the right one)";

    public static void main(String[] args) {
        numberOfBits();
        rangeWithinAndBeyondAPin();
        rangeOfOneBitWithinAndBeyond();
        secondBelowTheFirst();
        rangeOfAnInnerName();
        unlikeWidthsOfPins();
        unlikeWidthsOfInnerNames();
        constantsHaveAnyWidth();
        Check.end();
    }

    private static void numberOfBits() {
        Check.sentence(PROMISE, "a number of bits that is not 1 .. 16 (at it)");
        for (int bits = 0; bits <= 99; bits++) {
            boolean right = bits >= 1 && bits <= 16;
            if (right) {
                Check.board("CHIP A{IN a[" + bits + "];OUT o[" + bits + "];PARTS:}");
            } else {
                Check.fault(5, "CHIP A{IN a,b[ ^" + bits + " ],c;OUT o;PARTS:}");
                Check.fault(5, "CHIP A{IN a;OUT o[^" + bits + "];PARTS:}");
            }
        }
        Check.fault(5, "CHIP A{IN a[^00];OUT o;PARTS:}");
        Check.board("CHIP A{IN a[01];OUT o[09];PARTS:}");
    }

    /** A board with pins of that width, and parts W that have them too. */
    private static String head(int width) {
        return "CHIP W{IN i[" + width + "];OUT u[" + width + "];PARTS:}CHIP A{IN a[" + width + "];OUT o[" + width + "];PARTS:";
    }

    private static void rangeWithinAndBeyondAPin() {
        Check.sentence(PROMISE, BEYOND);
        for (int width = 1; width <= 16; width++) {
            String all = "[0.." + (width - 1) + "]";
            String more = "[0.." + width + "]";
            Check.board(head(width) + "W(i" + all + "=a" + all + ",u" + all + "=o" + all + ");}");
            Check.fault(5, head(width) + "W(i^" + more + "=a);}");
            Check.fault(5, head(width) + "W(i=a ^" + more + ");}");
            Check.fault(5, head(width) + "W(u ^" + more + "=o);}");
            Check.fault(5, head(width) + "W(u=o^" + more + ");}");
        }
    }

    private static void rangeOfOneBitWithinAndBeyond() {
        Check.sentence(PROMISE, BEYOND);
        for (int width = 1; width <= 16; width++) {
            String last = "[" + (width - 1) + "]";
            String[] beyond = {"[" + width + "]", "[" + width + ".." + width + "]", "[99]", "[" + width + "..99]"};
            Check.board(head(width) + "W(i" + last + "=a" + last + ",u" + last + "=o" + last + ");}");
            for (String range : beyond) {
                Check.fault(5, head(width) + "W(i^" + range + "=true);}");
                Check.fault(5, head(width) + "W(i[0]=a^" + range + ");}");
                Check.fault(5, head(width) + "W(u^" + range + "=x);}");
                Check.fault(5, head(width) + "W(u[0]=o^" + range + ");}");
            }
        }
    }

    private static void secondBelowTheFirst() {
        Check.sentence(PROMISE, BELOW);
        for (int i = 0; i < 16; i++) {
            String same = "[" + i + ".." + i + "]";
            Check.board(head(16) + "W(i" + same + "=a" + same + ",u" + same + "=o" + same + ");}");
            if (i > 0) {
                String below = "[" + i + ".." + (i - 1) + "]";
                Check.fault(5, head(16) + "W(i^" + below + "=true);}");
                Check.fault(5, head(16) + "W(i[0]=a^" + below + ");}");
                Check.fault(5, head(16) + "W(u ^" + below + "=x);}");
                Check.fault(5, head(16) + "W(u[0]=o ^" + below + ");}");
            }
        }
        Check.fault(5, head(16) + "W(i^[15..0]=a);}");
        Check.fault(5, head(16) + "W(i^[99..0]=a);}");
    }

    private static void rangeOfAnInnerName() {
        Check.sentence(PROMISE, "a range of an inner name (at its [)");
        Check.board(head(2) + "W(u=x);W(i=x);}");
        Check.fault(5, head(2) + "W(u=x^[0..1]);}");
        Check.fault(5, head(2) + "W(u=x);W(i=x ^[0..1]);}");
        Check.fault(5, head(2) + "W(u[0]=x^[0]);}");
        Check.fault(5, head(2) + "W(i[0]=x^[0]);W(u=x);}");
        Check.fault(5, head(2) + "W(i[0]=x^[9..8]);W(u=x);}");
    }

    private static void unlikeWidthsOfPins() {
        Check.sentence(PROMISE, UNLIKE);
        for (int width = 1; width <= 15; width++) {
            String pins = "CHIP W{IN i[" + width + "],j[" + (width + 1) + "];OUT u[" + width + "],v[" + (width + 1) + "];PARTS:}"
                    + "CHIP A{IN a[" + width + "],b[" + (width + 1) + "];OUT o[" + width + "],p[" + (width + 1) + "];PARTS:";
            Check.board(pins + "W(i=a,j=b,u=o,v=p);}");
            Check.fault(5, pins + "W(i=^b);}");
            Check.fault(5, pins + "W(j= ^a);}");
            Check.fault(5, pins + "W(u=^p);}");
            Check.fault(5, pins + "W(v= ^o);}");
            Check.fault(5, pins + "W(j[1.." + width + "]=^b);}");
            Check.fault(5, pins + "W(i=^b[0.." + width + "]);}");
            Check.fault(5, pins + "W(v=^p[1.." + width + "]);}");
            Check.board(pins + "W(i=b[1.." + width + "],v[0.." + (width - 1) + "]=o,u=p[1.." + width + "]);}");
        }
    }

    private static void unlikeWidthsOfInnerNames() {
        Check.sentence(PROMISE, UNLIKE);
        Check.board(head(16) + "W(u=x,u[1..15]=y);W(i=x);W(i[0..14]=y);}");
        Check.fault(5, head(16) + "W(u=x,u[1..15]=y);W(i=^y);}");
        Check.fault(5, head(16) + "W(i[0..14]=^x);W(u=x);}");
        Check.fault(5, head(16) + "W(u=x);Nand(a= ^x);}");
        Check.fault(5, head(16) + "Nand(out=x);W(i=^x);}");
    }

    private static void constantsHaveAnyWidth() {
        Check.sentence(PROMISE, UNLIKE);
        for (int width = 1; width <= 16; width++) {
            Check.board(head(width) + "W(i=true);W(i=false);W(i[0.." + (width - 1) + "]=true);W(i[0]=false);}");
        }
    }
}
