/** Promise 3, read: the promise's own sentence. The faults have tests of their own. */
public final class Promise3ReadEdgesTest {
    private static final String PROMISE = "Promise 3, read";
    private static final String NO_BYTES = "The text, which has no bytes then";
    private static final String LAST = "0, its last chip is the board";
    private static final String NO_BOARD = "1 to 6 a fault (there is no board then)";

    public static void main(String[] args) {
        noBytesBehindABoard();
        noBytesBehindAFault();
        nothingOfTheTextAheadIsRead();
        roomForAFullTextThen();
        emptyText();
        fullText();
        onlyChipIsTheBoard();
        lastOfEightChipsIsTheBoard();
        noBoardBehindAFault();
        noBoardBehindAnEmptyText();
        boardBehindAFault();
        newBoardIsAsAtFirst();
        Check.end();
    }

    private static void noBytesBehindABoard() {
        Check.sentence(PROMISE, NO_BYTES);
        ChipDesk desk = Check.board(Texts.NOT);
        Check.due("read() again", desk.read(), 1);
        Check.due("place() again", desk.place(), 0);
    }

    private static void noBytesBehindAFault() {
        Check.sentence(PROMISE, NO_BYTES);
        for (int kind = 1; kind <= 6; kind++) {
            ChipDesk desk = new ChipDesk();
            Check.fault(desk, kind, Texts.fault(kind));
            Check.due("read() behind fault " + kind, desk.read(), 1);
            Check.due("place() behind fault " + kind, desk.place(), 0);
        }
    }

    private static void nothingOfTheTextAheadIsRead() {
        Check.sentence(PROMISE, NO_BYTES);
        endsThere("CHIP^", "S");
        endsThere("^CHI", "P");
        endsThere(Texts.EMPTY + "^/", "/");
        endsThere(Texts.EMPTY + "^/", "*");
        endsThere(Texts.EMPTY + "^/* *", "/");
        endsThere("CHIP A{IN a;OUT o;PARTS:Nand(a[0^.", ".");
        endsThere("CHIP A{IN a;OUT o;PARTS:^", "}");
    }

    /** The text ahead has a byte where this one ends that would go well with its last one. */
    private static void endsThere(String marked, String behind) {
        ChipDesk desk = new ChipDesk();
        Check.write(desk, marked.replace("^", "") + behind);
        desk.read();
        Check.fault(desk, 1, marked);
    }

    private static void roomForAFullTextThen() {
        Check.sentence(PROMISE, NO_BYTES);
        ChipDesk desk = Check.board(Texts.behindBlanks(2000, Texts.NOT));
        Check.newBoard(desk, Texts.behindBlanks(2000, Texts.KEEP));
        Check.due("gates(1)", desk.gates(1), 1);
    }

    private static void emptyText() {
        Check.sentence(PROMISE, "The text is read");
        Check.fault(1, "^");
    }

    private static void fullText() {
        Check.sentence(PROMISE, "The text is read");
        Check.board(Texts.behindBlanks(2000, Texts.NOT));
        String ahead = Texts.NOT + " ".repeat(1999 - Texts.NOT.length());
        Check.board(ahead + " ");
        Check.fault(1, ahead + "^}");
        // Whatever it is, it may take the last byte.
        String[] faulty = {"^/", "^.", "^..", "^a", "^1", "^/*", "^ab", "CHIP^"};
        for (String end : faulty) {
            Check.fault(1, Texts.behindBlanks(2001, Texts.NOT + end));
        }
        String[] comments = {"//", "// /*", "/**/", "/* */"};
        for (String end : comments) {
            Check.board(Texts.behindBlanks(2000, Texts.NOT + end));
        }
        String open = Texts.NOT.substring(0, Texts.NOT.length() - 1);
        Check.board(open + " ".repeat(1999 - open.length()) + "}");
        Check.fault(1, open + " ".repeat(2000 - open.length()) + "^");
    }

    private static void onlyChipIsTheBoard() {
        Check.sentence(PROMISE, LAST);
        Check.counts("of one chip", Check.board(Texts.NOT), 1, 0, 1, 1, 1, 1, 0, 1);
    }

    /** Chip n has n Nands, so that the board tells which one it is. */
    private static void lastOfEightChipsIsTheBoard() {
        Check.sentence(PROMISE, LAST);
        StringBuilder text = new StringBuilder();
        for (int n = 1; n <= 8; n++) {
            text.append(Texts.chip("C" + n, Texts.times(n, "Nand(a=a);")));
            ChipDesk desk = Check.board(text.toString());
            Check.due("gates(0) of chip " + n, desk.gates(0), n);
            Check.due("gates(4) of chip " + n, desk.gates(4), n);
        }
    }

    private static void noBoardBehindAFault() {
        Check.sentence(PROMISE, NO_BOARD);
        for (int kind = 1; kind <= 6; kind++) {
            ChipDesk desk = Check.board(Texts.NOT);
            Check.fault(desk, kind, Texts.fault(kind));
            Check.noBoard("behind fault " + kind, desk);
        }
        String[] boardFaults = {
            Texts.manyGates("Nand(a=a);") + Texts.chip("A", Texts.times(3, "U(a=a);")) + "^",
            Texts.chip("A", "Nand(a=x,out=x);") + "^"};
        for (String marked : boardFaults) {
            ChipDesk desk = Check.board(Texts.NOT);
            Check.fault(desk, 6, marked);
            Check.noBoard("behind fault 6 at the length", desk);
        }
    }

    private static void noBoardBehindAnEmptyText() {
        Check.sentence(PROMISE, NO_BOARD);
        ChipDesk desk = Check.board(Texts.NOT);
        Check.fault(desk, 1, "^");
        Check.noBoard("behind an empty text", desk);
    }

    private static void boardBehindAFault() {
        Check.sentence(PROMISE, LAST);
        for (int kind = 1; kind <= 6; kind++) {
            ChipDesk desk = new ChipDesk();
            Check.fault(desk, kind, Texts.fault(kind));
            Check.newBoard(desk, Texts.NOT);
            Check.counts("behind fault " + kind, desk, 1, 0, 1, 1, 1, 1, 0, 1);
            Check.outIs(desk, 0, 0, 1);
        }
        String[] boardFaults = {Texts.chip("A", "Nand(a=x,out=x);" + Texts.times(11, "Nand(a=x);")) + "^",
            Texts.manyGates("Nand(a=a);") + Texts.chip("A", Texts.times(12, "U(a=a);")) + "^"};
        for (String marked : boardFaults) {
            ChipDesk desk = new ChipDesk();
            Check.fault(desk, 6, marked);
            Check.newBoard(desk, Texts.NOT);
            Check.counts("behind fault 6 at the length", desk, 1, 0, 1, 1, 1, 1, 0, 1);
            Check.outIs(desk, 0, 0, 1);
        }
    }

    private static void newBoardIsAsAtFirst() {
        Check.sentence(PROMISE, LAST);
        ChipDesk desk = Check.board(Texts.KEEP);
        Check.due("drive(0, 1)", desk.drive(0, 1), true);
        Check.due("tick()", desk.tick(), 1);
        Check.newBoard(desk, Texts.KEEP);
        Check.due("pin(0)", desk.pin(0), 0);
        Check.due("gates(6)", desk.gates(6), 0);
        Check.due("tick()", desk.tick(), 0);
    }
}
