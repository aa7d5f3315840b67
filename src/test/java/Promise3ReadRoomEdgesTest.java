import java.util.ArrayList;
import java.util.List;

/** Promise 3, read: fault 2, the sentence about room in 'Terms'. */
public final class Promise3ReadRoomEdgesTest {
    private static final String PROMISE = "Promise 3, read, fault 2, room";
    private static final String INNER = "a 31st inner name of a chip (any name on a right side that is no pin of it; "
            + "where it comes first, at it)";

    public static void main(String[] args) {
        tokens();
        endIsNoToken();
        chips();
        pins();
        pinsAreCountedByChip();
        parts();
        innerNames();
        innerNameIsAnyNameOnARightSide();
        innerNameIsNoPinAndNoConstant();
        innerNamesAreCountedByChip();
        firstFromTheLeft();
        Check.end();
    }

    private static void tokens() {
        Check.sentence(PROMISE, "a 1001st token");
        for (int count = 990; count <= 1010; count++) {
            List<String> tokens = textOf(count);
            Check.due("tokens of the text", tokens.size(), count);
            if (count <= 1000) {
                Check.board(joined(tokens));
            } else {
                Check.faultAt(2, joined(tokens.subList(0, 1001)).length() - tokens.get(1000).length(), joined(tokens));
            }
        }
    }

    /** A text without a fault of about 1000 tokens: links of single bits, some of them in longer forms. */
    private static List<String> textOf(int count) {
        List<String> tokens = new ArrayList<>(List.of(("CHIP F { IN a [ 9 ] , b [ 9 ] , c [ 9 ] , d [ 9 ] , e [ 9 ] , "
                + "f [ 9 ] , g [ 9 ] ; OUT o ; PARTS : } CHIP A { IN x ; OUT o ; PARTS :").split(" ")));
        int rest = count - tokens.size() - 3 * 3 - 1;
        // One token more alone can't be had, but eight instead of a link of seven.
        int links = rest % 7 == 1 ? rest / 7 - 1 : rest / 7;
        int more = rest - 7 * links;
        int longRights = more % 2;
        int longLefts = (more - 3 * longRights) / 2;
        for (int i = 0; i < links; i++) {
            if (i % 63 == 0) {
                tokens.addAll(List.of("F", "("));
            }
            addLink(tokens, i % 63, i < longLefts, i < longRights);
            if (i % 63 == 62 || i == links - 1) {
                tokens.set(tokens.size() - 1, ")");
                tokens.add(";");
            }
        }
        tokens.add("}");
        return tokens;
    }

    /** A link and its comma: 7 tokens, 2 more if its left side is a long one, 3 more if its right side is. */
    private static void addLink(List<String> tokens, int bit, boolean longLeft, boolean longRight) {
        String number = "" + bit % 9;
        tokens.addAll(List.of("" + (char) ('a' + bit / 9), "[", number));
        tokens.addAll(longLeft ? List.of("..", number, "]", "=") : List.of("]", "="));
        tokens.addAll(longRight ? List.of("x", "[", "0", "]", ",") : List.of("x", ","));
    }

    private static String joined(List<String> tokens) {
        StringBuilder text = new StringBuilder();
        for (String token : tokens) {
            boolean words = text.length() > 0 && Character.isLetterOrDigit(text.charAt(text.length() - 1))
                    && Character.isLetterOrDigit(token.charAt(0));
            text.append(words ? " " : "").append(token);
        }
        return text.toString();
    }

    private static void endIsNoToken() {
        Check.sentence(PROMISE, "a 1001st token (the end is none)");
        String full = joined(textOf(1000));
        Check.board(full + " ");
        Check.board(full + " /* no token */ // none");
        Check.board(full + " ".repeat(2000 - full.length()));
        Check.fault(2, full + " /**/ ^CHIP");
        Check.fault(2, full + "^CHIP B{IN a;OUT o;PARTS:}");
        String open = full.substring(0, full.length() - 1);
        Check.fault(2, open + "F^(a[0]=x);}");
        Check.fault(1, full + "^$");
        Check.fault(1, full + " ^/*");
    }

    private static void chips() {
        Check.sentence(PROMISE, "a 9th chip (at its name)");
        StringBuilder text = new StringBuilder();
        for (int i = 1; i <= 8; i++) {
            text.append("CHIP C" + i + "{IN a;OUT o;PARTS:}");
            Check.due("gates(4)", Check.board(text.toString()).gates(4), i);
        }
        Check.fault(2, text + "CHIP ^C9{IN a;OUT o;PARTS:}");
        Check.fault(2, text + "CHIP /**/ ^C1{IN a;OUT o;PARTS:}");
        Check.fault(2, text + "CHIP ^C9");
        Check.fault(1, text + "CHIP ^{");
        Check.fault(1, text + "CHIP^");
        Check.fault(1, text + "^C9");
    }

    /** IN and OUT pins share the eight. */
    private static void pins() {
        Check.sentence(PROMISE, "a 9th pin of a chip (IN and OUT; at its name)");
        String names = "p1,p2,p3,p4,p5,p6,p7,p8";
        for (int ins = 1; ins <= 7; ins++) {
            String split = names.substring(0, 3 * ins - 1) + ";OUT " + names.substring(3 * ins);
            ChipDesk desk = Check.board("CHIP A{IN " + split + ";PARTS:}");
            Check.due("gates(2)", desk.gates(2), ins);
            Check.due("gates(3)", desk.gates(3), 8 - ins);
            Check.fault(2, "CHIP A{IN " + split + ",^p9;PARTS:}");
            Check.fault(2, "CHIP A{IN " + split + "[16] , ^p9[0];PARTS:}");
        }
        Check.fault(2, "CHIP A{IN " + names + ";OUT ^o;PARTS:}");
        Check.fault(2, "CHIP A{IN " + names + ",^p9;OUT o;PARTS:}");
        Check.fault(1, "CHIP A{IN " + names + ",^;OUT o;PARTS:}");
        Check.fault(1, "CHIP A{IN " + names + ";^PARTS:}");
    }

    private static void pinsAreCountedByChip() {
        Check.sentence(PROMISE, "a 9th pin of a chip (IN and OUT; at its name)");
        String full = "{IN a,b,c,d;OUT e,f,g,h;PARTS:}";
        Check.board("CHIP A" + full + "CHIP B" + full + "CHIP C" + full);
    }

    private static void parts() {
        Check.sentence(PROMISE, "a 13th part of a chip (at its name)");
        String head = "CHIP A{IN a;OUT o;PARTS:";
        for (int n = 0; n <= 12; n++) {
            Check.due("gates(0)", Check.board(head + Texts.times(n, "Nand(a=a);") + "}").gates(0), n);
        }
        String twelve = Texts.times(12, "Nand(a=a);");
        Check.fault(2, head + twelve + "^Nand(a=a);}");
        Check.fault(2, head + twelve + " ^Or(a=a);}");
        Check.fault(2, head + twelve + "^Nand");
        Check.fault(1, head + twelve + "^(");
        Check.fault(1, head + twelve + "^");
        Check.board(head + twelve + "}CHIP B{IN a;OUT o;PARTS:" + twelve + "}");
    }

    private static String outLinks(int first, int last) {
        StringBuilder links = new StringBuilder();
        for (int i = first; i <= last; i++) {
            links.append(i == first ? "" : ",").append("out=x").append(i);
        }
        return links.toString();
    }

    private static void innerNames() {
        Check.sentence(PROMISE, INNER);
        Check.board(Texts.chip("A", "Nand(" + outLinks(1, 30) + ");"));
        Check.fault(2, "CHIP A{IN a;OUT o;PARTS:Nand(" + outLinks(1, 30) + ",out=^x31);}");
        Check.fault(2, "CHIP A{IN a;OUT o;PARTS:Nand(" + outLinks(1, 30) + ",out=^x31,out=x32);}");
        Check.board(Texts.chip("A", "Nand(" + outLinks(1, 15) + ");Nand(" + outLinks(16, 30) + ");"));
        Check.fault(2, "CHIP A{IN a;OUT o;PARTS:Nand(" + outLinks(1, 15) + ");Nand(" + outLinks(16, 30) + ");Nand(out=^y);}");
    }

    private static void innerNameIsAnyNameOnARightSide() {
        Check.sentence(PROMISE, INNER);
        String head = "CHIP A{IN a;OUT o;PARTS:Nand(" + outLinks(1, 30) + ");";
        Check.fault(2, head + "Nand(a=^y);}");
        Check.fault(2, head + "Nand(a=^y[0]);}");
        Check.fault(2, head + "Nand(zz=^y);}");
        Check.fault(2, head + "Or(zz=^y);}");
        Check.fault(2, head + "Nand(a=^Nand);}");
        Check.fault(2, head + "Nand(a=^A);}");
        Check.fault(2, head + "Nand(a=^b);}");
        // Where none of the 30 is linked from an OUT pin they are inner names all the same.
        Check.fault(2, "CHIP A{IN a;OUT o;PARTS:Or(" + outLinks(1, 30) + ");Nand(a=^y);}");
    }

    private static void innerNameIsNoPinAndNoConstant() {
        Check.sentence(PROMISE, INNER);
        String head = "CHIP A{IN a;OUT o;PARTS:Nand(" + outLinks(1, 30) + ");";
        Check.board(head + "Nand(a=x1,b=x30);Nand(a=true,b=false);Nand(a=a,out=o);Nand(a=x1,b=x1);}");
        Check.fault(3, head + "Nand(out=^x30);}");
        // The names of a left side and of a part are none.
        Check.fault(4, head + "Nand(^y=a);}");
        Check.fault(4, head + "^Y(y=a);}");
    }

    private static void innerNamesAreCountedByChip() {
        Check.sentence(PROMISE, INNER);
        String full = "Nand(" + outLinks(1, 30) + ");";
        Check.board(Texts.chip("A", full) + Texts.chip("B", full.replace("x", "y")) + Texts.chip("C", full));
    }

    private static void firstFromTheLeft() {
        Check.sentence(PROMISE, "FAULTS, the first one from the left of: 1 SYNTAX 2 ROOM");
        Check.fault(2, "CHIP A{IN a,b,c,d,e,f,g,h,^i $;OUT o;PARTS:}");
        Check.fault(1, "CHIP A{IN a,b,c,d,e,f,g,h ^$,i;OUT o;PARTS:}");
        Check.fault(2, "CHIP A{IN a,b,c,d,e,f,g,h;OUT ^o");
        Check.fault(1, "CHIP A{IN a,b,c,d,e,f,g,h;^o");
        String twelve = "CHIP A{IN a;OUT o;PARTS:" + Texts.times(12, "Nand(a=a);");
        Check.fault(2, twelve + "^Nand $");
        Check.fault(1, twelve + "^$ Nand");
        Check.fault(2, twelve + "^Nand(" + outLinks(1, 31) + ");}");
    }
}
