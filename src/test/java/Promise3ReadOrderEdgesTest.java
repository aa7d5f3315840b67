/** Promise 3, read: which of several faults is told, and what a fault leaves out of the question. */
public final class Promise3ReadOrderEdgesTest {
    private static final String PROMISE = "Promise 3, read, Terms, which fault";
    private static final String FIRST = "If there is none, the first one from the left of: 3 TWICE 4 NAME 5 WIDTH";
    private static final String LEAST = "of one place that with the least number";
    private static final String RANGE = "Where a range is faulty nothing more is asked of its bits and width";
    private static final String MEAN_FIRST = "Of names told twice others mean the first one";
    private static final String ONE_WIDE = "A pin whose number of bits is faulty counts as 1 wide elsewhere";

    private static final String WIDE = "CHIP W{IN i[4],j;OUT u[4],v;PARTS:}";
    private static final String HEAD = "CHIP A{IN a,w[4];OUT o,q[4];PARTS:";

    public static void main(String[] args) {
        syntaxAndRoomComeFirst();
        firstFromTheLeftOfThreeToFive();
        leastNumberOfOnePlace();
        ringComesLast();
        linkOfNoChip();
        nameCountsAsInner();
        widthOfAnInnerNameIsNotAsked();
        faultyPinIsOneWide();
        faultyRangeOnTheLeft();
        faultyRangeOnTheRight();
        chipsToldTwice();
        pinsToldTwice();
        innerNamesLinkedTwice();
        Check.end();
    }

    /** Whatever stands to the left, a fault 1 or 2 at the far right is told. */
    private static void syntaxAndRoomComeFirst() {
        Check.sentence(PROMISE, "FAULTS, the first one from the left of: 1 SYNTAX 2 ROOM. If there is none, ..");
        for (int kind = 3; kind <= 6; kind++) {
            String faulty = Texts.fault(kind).replace("^", "");
            Check.fault(kind, Texts.fault(kind) + Texts.chip("B", ""));
            Check.fault(1, faulty + "^$");
            Check.fault(1, faulty + "^}");
            Check.fault(2, faulty + "CHIP B{IN a,b,c,d,e,f,g,h;OUT ^o;PARTS:}");
        }
    }

    /** Each of three faults ahead of, and behind, each other one. */
    private static void firstFromTheLeftOfThreeToFive() {
        Check.sentence(PROMISE, FIRST);
        String[] parts = {"Nand(a=a,^a=a);", "^Or(a=a);", "Nand(a=^w);"};
        for (int first = 0; first < parts.length; first++) {
            for (int second = 0; second < parts.length; second++) {
                String behind = parts[second].replace("^", "") + "}";
                Check.fault(3 + first, HEAD + parts[first] + behind);
                Check.fault(3 + first, HEAD + parts[first] + "}CHIP B{IN a,w[4];OUT o;PARTS:" + behind);
            }
        }
        // In one link from its left name to its right range.
        Check.fault(4, HEAD + "Nand(^z[9]=q[9]);}");
        Check.fault(5, HEAD + "Nand(a^[9]=q[9]);}");
        Check.fault(4, HEAD + "Nand(a=^q[9]);}");
        Check.fault(5, HEAD + "Nand(a=w^[9]);}");
        Check.fault(3, HEAD + "Nand(a=a,^a=w[9]);}");
        // A chip's name, its pins, then its parts.
        Check.fault(3, "CHIP ^Nand{IN a[0];OUT a;PARTS:Or(a=a);}");
        Check.fault(5, "CHIP A{IN a[^0],b;OUT b;PARTS:Or(a=a);}");
        Check.fault(3, "CHIP A{IN b;OUT ^b[0];PARTS:Or(a=a);}");
        Check.fault(3, HEAD + "}CHIP ^A{IN a,a;OUT o;PARTS:}");
    }

    private static void leastNumberOfOnePlace() {
        Check.sentence(PROMISE, LEAST);
        // 3 and 5: a bit that is linked, and unlike widths.
        Check.fault(3, HEAD + "Nand(out=q[0]);Nand(out=^q);}");
        Check.fault(3, HEAD + "Nand(out=q[3]);Nand(out=^q[2..3]);}");
        Check.fault(3, HEAD + "Nand(out=o);W(u=^o);}" + WIDE);
        Check.fault(5, HEAD + "Nand(out=q[3]);Nand(out=^q[1..2]);}");
        // 4 and 5: a pin of the wrong kind, and unlike widths.
        Check.fault(4, HEAD + "Nand(a=^q);}");
        Check.fault(4, HEAD + "Nand(out=^w);}");
        Check.fault(4, HEAD + "W(u=^true);}" + WIDE);
    }

    private static void ringComesLast() {
        Check.sentence(PROMISE, "If there is none: 6 RING");
        String itself = "CHIP A{IN a;OUT o;PARTS:A(a=a);}";
        Check.fault(3, itself + "CHIP ^A{IN a;OUT o;PARTS:}");
        Check.fault(4, itself + "CHIP B{IN a;OUT o;PARTS:^Or(a=a);}");
        Check.fault(5, itself + "CHIP B{IN a;OUT o[^0];PARTS:}");
        Check.fault(6, "CHIP ^A{IN a;OUT o;PARTS:A(a=a);}CHIP B{IN a;OUT o;PARTS:}");
        Check.fault(5, "CHIP A{IN a,w[2];OUT o;PARTS:Nand(a=x,out=x);Nand(a=^w);}");
        Check.fault(4, "CHIP A{IN a;OUT o;PARTS:A(^b=a);}");
    }

    private static void linkOfNoChip() {
        Check.sentence(PROMISE, "A link of a part that is no chip is not looked at");
        // It gives no inner name, so its use ahead is the first fault.
        Check.fault(4, HEAD + "Nand(a=^x);Or(out=x);}");
        Check.fault(4, HEAD + "W(i=^x);Or(u=x);}" + WIDE);
        // Whatever is wrong in it, the part's own name is the fault.
        Check.fault(4, HEAD + "^Or(a=a,a=a,a[9]=w[9],out=true);}");
    }

    private static void nameCountsAsInner() {
        Check.sentence(PROMISE, "A name counts as inner where its link's left side is an OUT pin");
        Check.board(HEAD + "Nand(a=x);Nand(out=x);}");
        Check.fault(4, HEAD + "Nand(a=^x);Nand(b=x);}");
        Check.fault(4, HEAD + "Nand(a=^x);Nand(z=x);}");
        // Also where the range on its left, or its own, is faulty.
        Check.fault(5, HEAD + "Nand(a=x);Nand(out^[1]=x);}");
        Check.fault(5, HEAD + "Nand(a=x);Nand(out=x^[0]);}");
    }

    private static void widthOfAnInnerNameIsNotAsked() {
        Check.sentence(PROMISE, "its width, where that link's left range is faulty, is not asked");
        String[] ranges = {"[4]", "[0..4]", "[2..1]", "[99]"};
        for (String range : ranges) {
            Check.fault(5, HEAD + "Nand(a=x);W(i=x,j=x);W(u^" + range + "=x);}" + WIDE);
        }
        Check.fault(5, HEAD + "Nand(a=^x);W(i=x,j=x);W(u=x);}" + WIDE);
        // A range of it is a fault all the same.
        Check.fault(5, HEAD + "Nand(a=x^[0]);W(u[4]=x);}" + WIDE);
    }

    private static void faultyPinIsOneWide() {
        Check.sentence(PROMISE, ONE_WIDE);
        String[] numbers = {"0", "17", "99"};
        for (String number : numbers) {
            String behind = "CHIP G{IN i[^" + number + "];OUT u[" + number + "];PARTS:}";
            String plain = behind.replace("^", "");
            Check.fault(5, HEAD + "G(i=a,u=o);G(i[0]=a,u[0..0]=x);Nand(a=x);}" + behind);
            Check.fault(5, HEAD + "G(i^[1]=a);}" + plain);
            Check.fault(5, HEAD + "G(i=^w);}" + plain);
            Check.fault(5, HEAD + "G(u^[0..1]=x);}" + plain);
            Check.fault(5, HEAD + "G(u=^q);}" + plain);
            Check.fault(5, HEAD + "W(i=^x);G(u=x);}" + WIDE + plain);
            Check.fault(3, HEAD + "G(i=a,^i=a);}" + plain);
        }
    }

    private static void faultyRangeOnTheLeft() {
        Check.sentence(PROMISE, RANGE);
        // Its bits would be linked twice, at the name ahead of it.
        Check.fault(5, HEAD + "Nand(a=a,a^[0..1]=a);}");
        Check.fault(5, HEAD + "W(i=w,i^[3..2]=a);}" + WIDE);
        Check.fault(5, HEAD + "W(i=w,i^[0..4]=w);}" + WIDE);
        // Its width would be unlike the right side's.
        Check.fault(5, HEAD + "Nand(a^[0..1]=a);}");
    }

    private static void faultyRangeOnTheRight() {
        Check.sentence(PROMISE, RANGE);
        // Some of its bits are linked.
        Check.fault(5, HEAD + "W(u=q);W(u[0..1]=q^[3..4]);}" + WIDE);
        Check.fault(5, HEAD + "Nand(out=o);W(u[0..1]=o^[0..1]);}" + WIDE);
        Check.fault(5, HEAD + "W(u=q);Nand(out=q^[3..2]);}" + WIDE);
        // Its width is unlike the left side's.
        Check.fault(5, HEAD + "Nand(a=w^[2..4]);}");
        Check.fault(5, HEAD + "Nand(out=q^[2..4]);}");
        Check.fault(5, HEAD + "W(u=x);Nand(a=x^[0..1]);}" + WIDE);
    }

    private static void chipsToldTwice() {
        Check.sentence(PROMISE, MEAN_FIRST);
        String first = "CHIP F{IN i;OUT u;PARTS:}";
        String second = "CHIP F{IN j;OUT v;PARTS:}";
        Check.fault(3, HEAD + "F(i=a,u=o);}" + first + second.replace("F", "^F"));
        Check.fault(4, HEAD + "F(^j=a);}" + first + second);
        Check.fault(4, HEAD + "F(^v=o);}" + first + second);
        // A gate's name means the gate, also ahead of the chip that bears it.
        Check.fault(3, HEAD + "Nand(a=a,b=a,out=o);}CHIP ^Nand{IN i;OUT u;PARTS:}");
        Check.fault(4, HEAD + "Dff(^i=a);}CHIP Dff{IN i;OUT u;PARTS:}");
    }

    private static void pinsToldTwice() {
        Check.sentence(PROMISE, MEAN_FIRST);
        Check.fault(3, HEAD + "G(i=a);}CHIP G{IN i,^i[4];OUT u;PARTS:}");
        Check.fault(5, HEAD + "G(i=^w);}CHIP G{IN i,i[4];OUT u;PARTS:}");
        Check.fault(3, HEAD + "G(i=a);}CHIP G{IN i;OUT ^i;PARTS:}");
        Check.fault(4, HEAD + "G(i=^o);}CHIP G{IN i;OUT i;PARTS:}");
    }

    private static void innerNamesLinkedTwice() {
        Check.sentence(PROMISE, MEAN_FIRST);
        Check.fault(5, HEAD + "Nand(a=^x);W(u=x);Nand(out=x);}" + WIDE);
        Check.fault(3, HEAD + "Nand(a=x);Nand(out=x);W(u=^x);}" + WIDE);
        Check.fault(5, HEAD + "W(i=^x);Nand(out=x);W(u=x);}" + WIDE);
    }
}
