import java.util.ArrayList;
import java.util.List;

/** Promise 3, read: the grammar of 'Terms', and where fault 1 is. */
public final class Promise3ReadGrammarEdgesTest {
    private static final String PROMISE = "Promise 3, read, Terms, grammar";
    /** A token of each kind wherever the grammar has one. */
    private static final String[] TOKENS = ("CHIP A { IN a [ 2 ] , b ; OUT o , p [ 1 ] ; PARTS : "
            + "Nand ( a = a [ 0 .. 0 ] , b [ 0 ] = b , out = o ) ; Dff ( in = true ) ; } "
            + "CHIP B { IN a ; OUT o ; PARTS : }").split(" ");
    /** What the grammar lets in where each of these tokens stands. */
    private static final String[] LET_IN = ("CHIP / name / { / IN / name / [ , ; / number / ] / , ; / name / [ , ; / "
            + "OUT / name / [ , ; / name / [ , ; / number / ] / , ; / PARTS / : / "
            + "name } / ( / name / [ = / name true / [ , ) / number / .. ] / number / ] / , ) / "
            + "name / [ = / number / .. ] / = / name true / [ , ) / name / [ = / name true / [ , ) / ; / "
            + "name } / ( / name / [ = / name true / , ) / ; / name } / "
            + "CHIP / name / { / IN / name / [ , ; / OUT / name / [ , ; / PARTS / : / name }").split(" / ");

    public static void main(String[] args) {
        textHasAChip();
        textHasNothingBehindItsChips();
        everyTokenIsNeeded();
        everyTokenStandsOnce();
        everyTokenHasItsPlace();
        textEndsEarly();
        onePinAtLeast();
        numberOfBitsIsOneNumber();
        noPartAtAll();
        oneLinkAtLeast();
        rangeHasOneNumberOrTwo();
        constantsHaveNoRange();
        Check.end();
    }

    private static void textHasAChip() {
        Check.sentence(PROMISE, "text: chip chip*");
        Check.fault(1, "^");
        Check.fault(1, " ^");
        Check.fault(1, "/**/ // ^");
        Check.board(Texts.EMPTY);
        Check.board(Texts.EMPTY + Texts.NOT);
        Check.board(Texts.EMPTY + "\n" + Texts.NOT + "\n");
    }

    private static void textHasNothingBehindItsChips() {
        Check.sentence(PROMISE, "text: chip chip*");
        String[] behind = {"}", "{", ";", ",", "A", "IN", "PARTS", "true", "0", "..", "Nand(a=a);"};
        for (String token : behind) {
            Check.fault(1, Texts.EMPTY + "^" + token);
            Check.fault(1, Texts.EMPTY + Texts.NOT + "^" + token);
        }
    }

    private static String joined(List<String> tokens) {
        return String.join(" ", tokens);
    }

    private static String marked(List<String> tokens, int at) {
        List<String> copy = new ArrayList<>(tokens);
        if (at < copy.size()) {
            copy.set(at, "^" + copy.get(at));
            return joined(copy);
        }
        return joined(copy) + "^";
    }

    private static void everyTokenIsNeeded() {
        Check.sentence(PROMISE, "text, chip, pin, part, link, range: every token that is no choice");
        Check.board(joined(List.of(TOKENS)));
        for (int i = 0; i < TOKENS.length; i++) {
            List<String> tokens = new ArrayList<>(List.of(TOKENS));
            tokens.remove(i);
            Check.fault(1, marked(tokens, i));
        }
    }

    private static void everyTokenStandsOnce() {
        Check.sentence(PROMISE, "text, chip, pin, part, link, range: no token stands twice");
        for (int i = 0; i < TOKENS.length; i++) {
            List<String> tokens = new ArrayList<>(List.of(TOKENS));
            tokens.add(i, TOKENS[i]);
            Check.fault(1, marked(tokens, i + 1));
        }
    }

    private static void everyTokenHasItsPlace() {
        Check.sentence(PROMISE, "text, chip, pin, part, link, range: each token at its place");
        String[] kinds = {"CHIP", "IN", "OUT", "PARTS", "true", "name", "number", "{", "}", "(", ")", "[", "]", ",", ";",
            ":", "=", "..", "$"};
        Check.due("places", LET_IN.length, TOKENS.length);
        for (int i = 0; i < TOKENS.length; i++) {
            for (String kind : kinds) {
                if (!List.of(LET_IN[i].split(" ")).contains(kind)) {
                    List<String> tokens = new ArrayList<>(List.of(TOKENS));
                    tokens.set(i, kind.equals("number") ? "7" : kind);
                    Check.fault(1, marked(tokens, i));
                }
            }
        }
    }

    private static void textEndsEarly() {
        Check.sentence(PROMISE, "text, chip, pin, part, link, range: the end comes behind the last }");
        int chipEnd = List.of(TOKENS).indexOf("}") + 1;
        for (int n = 0; n < TOKENS.length; n++) {
            String text = joined(List.of(TOKENS).subList(0, n));
            if (n == chipEnd) {
                Check.board(text);
            } else {
                Check.fault(1, text + "^");
                Check.fault(1, text + " /* x */ // y^");
            }
        }
    }

    private static void onePinAtLeast() {
        Check.sentence(PROMISE, "'IN' pin (',' pin)* ';' 'OUT' pin (',' pin)* ';'");
        Check.board("CHIP A{IN a;OUT o;PARTS:}");
        Check.fault(1, "CHIP A{IN ^;OUT o;PARTS:}");
        Check.fault(1, "CHIP A{IN a;OUT ^;PARTS:}");
        Check.fault(1, "CHIP A{IN ^,a;OUT o;PARTS:}");
        Check.fault(1, "CHIP A{IN a,^;OUT o;PARTS:}");
        Check.fault(1, "CHIP A{IN a;OUT o,^;PARTS:}");
        Check.fault(1, "CHIP A{IN a,^,b;OUT o;PARTS:}");
        Check.fault(1, "CHIP A{IN a ^OUT o;PARTS:}");
        Check.fault(1, "CHIP A{^OUT o;PARTS:}");
        Check.fault(1, "CHIP A{IN a;^PARTS:}");
        Check.fault(1, "CHIP A{^OUT o;IN a;PARTS:}");
        Check.fault(1, "CHIP A{IN a;^IN b;OUT o;PARTS:}");
    }

    private static void numberOfBitsIsOneNumber() {
        Check.sentence(PROMISE, "pin: name ['[' number ']']");
        Check.board("CHIP A{IN a[2];OUT o[2];PARTS:}");
        Check.fault(1, "CHIP A{IN a[^];OUT o;PARTS:}");
        Check.fault(1, "CHIP A{IN a[^n];OUT o;PARTS:}");
        Check.fault(1, "CHIP A{IN a[0^..1];OUT o;PARTS:}");
        Check.fault(1, "CHIP A{IN a[1^,2];OUT o;PARTS:}");
        Check.fault(1, "CHIP A{IN a[1]^[1];OUT o;PARTS:}");
        Check.fault(1, "CHIP A{IN a;OUT o[1]^=0;PARTS:}");
    }

    private static void noPartAtAll() {
        Check.sentence(PROMISE, "'PARTS' ':' part* '}'");
        Check.board("CHIP A{IN a;OUT o;PARTS:}");
        Check.board("CHIP A{IN a;OUT o;PARTS:Nand(a=a);}");
        Check.fault(1, "CHIP A{IN a;OUT o;PARTS:^;}");
        Check.fault(1, "CHIP A{IN a;OUT o;PARTS:Nand(a=a);^;}");
        Check.fault(1, "CHIP A{IN a;OUT o;PARTS^}");
        Check.fault(1, "CHIP A{IN a;OUT o;^}");
    }

    private static void oneLinkAtLeast() {
        Check.sentence(PROMISE, "part: name '(' link (',' link)* ')' ';'");
        Check.board("CHIP A{IN a;OUT o;PARTS:Nand(a=a);}");
        Check.fault(1, "CHIP A{IN a;OUT o;PARTS:Nand(^);}");
        Check.fault(1, "CHIP A{IN a;OUT o;PARTS:Nand(^,a=a);}");
        Check.fault(1, "CHIP A{IN a;OUT o;PARTS:Nand(a=a,^);}");
        Check.fault(1, "CHIP A{IN a;OUT o;PARTS:Nand(a=a,^,b=a);}");
        Check.fault(1, "CHIP A{IN a;OUT o;PARTS:Nand(a=a)^}");
        Check.fault(1, "CHIP A{IN a;OUT o;PARTS:Nand(a^);}");
        Check.fault(1, "CHIP A{IN a;OUT o;PARTS:Nand(a=^);}");
    }

    private static void rangeHasOneNumberOrTwo() {
        Check.sentence(PROMISE, "range: '[' number ['..' number] ']'");
        Check.board("CHIP A{IN a;OUT o;PARTS:Nand(a[0]=a[0],b[0..0]=a[0..0]);}");
        Check.fault(1, "CHIP A{IN a;OUT o;PARTS:Nand(a[^]=a);}");
        Check.fault(1, "CHIP A{IN a;OUT o;PARTS:Nand(a[^..0]=a);}");
        Check.fault(1, "CHIP A{IN a;OUT o;PARTS:Nand(a[0..^]=a);}");
        Check.fault(1, "CHIP A{IN a;OUT o;PARTS:Nand(a[0..0^..0]=a);}");
        Check.fault(1, "CHIP A{IN a;OUT o;PARTS:Nand(a[0]^[0]=a);}");
        Check.fault(1, "CHIP A{IN a;OUT o;PARTS:Nand(a=a[^]);}");
        Check.fault(1, "CHIP A{IN a;OUT o;PARTS:Nand(a=a[0..^]);}");
        Check.fault(1, "CHIP A{IN a;OUT o;PARTS:Nand(a=a[0]^[0]);}");
    }

    private static void constantsHaveNoRange() {
        Check.sentence(PROMISE, "link: name [range] '=' (name [range] | 'true' | 'false')");
        Check.board("CHIP A{IN a;OUT o;PARTS:Nand(a=true,b=false);}");
        Check.fault(1, "CHIP A{IN a;OUT o;PARTS:Nand(a=true^[0]);}");
        Check.fault(1, "CHIP A{IN a;OUT o;PARTS:Nand(a=false^[0]);}");
        Check.fault(1, "CHIP A{IN a;OUT o;PARTS:Nand(^true=a);}");
        Check.fault(1, "CHIP A{IN a;OUT o;PARTS:Nand(^false=a);}");
        Check.fault(1, "CHIP A{IN a;OUT o;PARTS:Nand(a=^0);}");
        Check.fault(1, "CHIP A{IN a;OUT o;PARTS:Nand(a=^1);}");
        Check.fault(1, "CHIP A{IN a;OUT o;PARTS:Nand(^0=a);}");
    }
}
