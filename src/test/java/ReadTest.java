/** Promise 3: what read leaves behind; its faults have tests of their own. */
public final class ReadTest {
    private static final String NOT = "CHIP Not{IN a;OUT o;PARTS:Nand(a=a,b=a,out=o);}";

    public static void main(String[] args) {
        textIsGone();
        lastChipIsTheBoard();
        faultTakesTheBoard();
        newBoardIsNew();
        blanksAndComments();
        noParts();
        longestWord();
        everyByteOfAWordCounts();
        boardsOfOtherShapes();
        namesLikeKeywordsAndGates();
        Check.end();
    }

    private static void textIsGone() {
        ChipDesk desk = Check.board(NOT);
        Check.due("read() again", desk.read(), 1);
        Check.due("place()", desk.place(), 0);
        Check.write(desk, "{");
        Check.due("read() of a fault", desk.read(), 1);
        Check.write(desk, NOT);
        Check.due("read() behind a fault", desk.read(), 0);
    }

    private static void lastChipIsTheBoard() {
        String two = NOT + "CHIP Same{IN a,b;OUT o;PARTS:Not(a=b,o=x);Not(a=x,o=o);}";
        ChipDesk desk = Check.board(two);
        Check.due("gates(0)", desk.gates(0), 2);
        Check.outIs(desk, 0, 1, 0, 1);
        Check.outIs(desk, 0, 0, 1, 0);
        ChipDesk turned = Check.board("CHIP Same{IN a,b;OUT o;PARTS:Not(a=b,o=x);Not(a=x,o=o);}" + NOT);
        Check.due("gates(0)", turned.gates(0), 1);
    }

    private static void faultTakesTheBoard() {
        ChipDesk desk = Check.board(NOT);
        Check.write(desk, "CHIP A{IN a,a;OUT o;PARTS:}");
        Check.due("read()", desk.read(), 3);
        Check.due("pin(0)", desk.pin(0), -1);
        Check.due("drive(0, 1)", desk.drive(0, 1), false);
        Check.due("gates(0)", desk.gates(0), -1);
        Check.write(desk, "CHIP A{IN a;OUT o;PARTS:A(a=a);}");
        Check.due("read()", desk.read(), 6);
        Check.due("gates(0)", desk.gates(0), -1);
    }

    private static void newBoardIsNew() {
        String keep = "CHIP K{IN a;OUT o;PARTS:Dff(in=a,out=o);}";
        ChipDesk desk = Check.board(keep);
        Check.due("drive(0, 1)", desk.drive(0, 1), true);
        Check.due("tick()", desk.tick(), 1);
        Check.due("pin(0)", desk.pin(0), 1);
        Check.write(desk, keep);
        Check.due("read()", desk.read(), 0);
        Check.due("pin(0) is 0 at first", desk.pin(0), 0);
        Check.due("gates(6) is 0 at first", desk.gates(6), 0);
        Check.due("tick(), IN is 0 at first", desk.tick(), 0);
    }

    private static void blanksAndComments() {
        ChipDesk desk = Check.board("\t\r\n //one\nCHIP/**/Not/***/{IN/*/ */a;OUT//two // /*\r}\n o ; "
                + "PARTS /* * / // \n **/ : Nand ( a = a , b [ 0 .. 00 ] = a , out = o ) ; } // last");
        Check.outIs(desk, 0, 1, 0);
        Check.outIs(desk, 0, 0, 1);
        Check.board(NOT + "//");
        Check.board(NOT + "/**/");
    }

    private static void noParts() {
        ChipDesk desk = Check.board("CHIP E{IN a;OUT o[16];PARTS:}");
        Check.due("pin(0)", desk.pin(0), 0);
        Check.due("gates(0)", desk.gates(0), 0);
    }

    private static void longestWord() {
        ChipDesk desk = Check.board("CHIP abcdefgh_ZYX1234{IN abcdefgh01234567,abcdefgh01234568;OUT abcdefg;PARTS:"
                + "Nand(a=abcdefgh01234567,b=true,out=abcdefgh);Nand(a=abcdefgh,b=true,out=abcdefg);}");
        Check.outIs(desk, 0, 0, 0, 1);
        Check.outIs(desk, 0, 1, 1, 0);
    }

    private static void everyByteOfAWordCounts() {
        String word = "abcdefghijklmnop";
        for (int length = 1; length <= 16; length++) {
            for (int i = 0; i < length; i++) {
                String other = word.substring(0, i) + "Z" + word.substring(i + 1, length);
                Check.board("CHIP A{IN " + word.substring(0, length) + ";OUT " + other + ";PARTS:}");
            }
        }
        for (int length = 1; length < 16; length++) {
            Check.board("CHIP A{IN " + word.substring(0, length) + ";OUT " + word.substring(0, length + 1) + ";PARTS:}");
        }
    }

    /** What one board leaves in the object must not be seen in the next one. */
    private static void boardsOfOtherShapes() {
        ChipDesk desk = Check.board("CHIP A{IN a;OUT o;PARTS:Nand(a=a,out=x);Nand(a=x,out=y);Nand(a=y,out=z);"
                + "Nand(a=z,out=o);Dff(in=x);}");
        Check.due("tick()", desk.tick(), 1);
        Check.write(desk, "CHIP B{IN a,b[4];OUT o;PARTS:Nand(a=b[2],b=b[3],out=o);}");
        Check.due("read()", desk.read(), 0);
        int[] wants = {1, 0, 2, 1, 1, 1, 0, 1};
        for (int what = 0; what < wants.length; what++) {
            Check.due("gates(" + what + ")", desk.gates(what), wants[what]);
        }
        Check.outIs(desk, 0, 0, 0, 12);
        Check.write(desk, NOT);
        Check.due("read()", desk.read(), 0);
        Check.outIs(desk, 0, 0, 1);
        Check.due("gates(0)", desk.gates(0), 1);
        Check.due("gates(5)", desk.gates(5), 1);
    }

    private static void namesLikeKeywordsAndGates() {
        ChipDesk desk = Check.board("CHIP chip{IN In,in,nand;OUT out,True,PART;PARTS:"
                + "Nand(a=In,b=in,out=out);Nand(a=nand,b=nand,out=CHIPS,out=True);}");
        Check.outIs(desk, 0, 0, 1, 1, 1);
        Check.due("pin(1)", desk.pin(1), 0);
        Check.due("pin(2)", desk.pin(2), 0);
    }
}
