/** Promise 4, place: the sentences that name a boundary case. */
public final class Promise4PlaceEdgesTest {
    private static final String PROMISE = "Promise 4, place";
    private static final String LAST = "The place of the fault of the last read()";
    private static final String NONE = "-1 without one";

    public static void main(String[] args) {
        withoutARead();
        withoutAFault();
        firstPlace();
        lastPlace();
        manyPlaces();
        ofTheLastReadAlone();
        otherCallsLeaveIt();
        Check.end();
    }

    private static void withoutARead() {
        Check.sentence(PROMISE, NONE);
        ChipDesk desk = new ChipDesk();
        Check.due("place()", desk.place(), -1);
        Check.write(desk, "$");
        Check.due("place() of a text that is not read", desk.place(), -1);
        Check.noBoard("of a new object", desk);
        Check.due("place() behind refused calls", desk.place(), -1);
    }

    private static void withoutAFault() {
        Check.sentence(PROMISE, NONE);
        for (int kind = 1; kind <= 6; kind++) {
            ChipDesk desk = new ChipDesk();
            Check.fault(desk, kind, Texts.fault(kind));
            Check.newBoard(desk, Texts.EMPTY);
            Check.due("place() again", desk.place(), -1);
        }
    }

    private static void firstPlace() {
        Check.sentence(PROMISE, LAST);
        Check.fault(1, "^");
        Check.fault(1, "^$");
        Check.fault(1, "^A" + Texts.EMPTY);
        Check.fault(1, "^/*" + Texts.EMPTY);
    }

    private static void lastPlace() {
        Check.sentence(PROMISE, LAST);
        Check.fault(1, " ".repeat(2000) + "^");
        Check.fault(1, " ".repeat(1999) + "^$");
        Check.fault(1, Texts.behindBlanks(1999, Texts.EMPTY) + "^$");
        Check.fault(6, Texts.behindBlanks(2000, Texts.chip("A", "Nand(a=x,out=x);")) + "^");
        Check.fault(5, Texts.behindBlanks(2000, "CHIP A{IN a;OUT o[17];PARTS:}").replace("17", "^17"));
    }

    /** Around the powers of two, so that no place is held in too few bits. */
    private static void manyPlaces() {
        Check.sentence(PROMISE, LAST);
        int[] blanks = {0, 1, 7, 8, 100, 113, 114, 115, 116, 241, 242, 243, 244, 497, 498, 499, 500, 1009, 1010,
            1011, 1012, 1970};
        for (int count : blanks) {
            for (int kind = 1; kind <= 6; kind++) {
                Check.fault(kind, " ".repeat(Math.min(count, 2001 - Texts.fault(kind).length())) + Texts.fault(kind));
            }
        }
    }

    private static void ofTheLastReadAlone() {
        Check.sentence(PROMISE, LAST);
        ChipDesk desk = new ChipDesk();
        for (int kind = 6; kind >= 1; kind--) {
            Check.fault(desk, kind, Texts.fault(kind));
        }
        Check.fault(desk, 1, "^");
        Check.newBoard(desk, Texts.NOT);
        Check.fault(desk, 1, "^");
    }

    private static void otherCallsLeaveIt() {
        Check.sentence(PROMISE, LAST);
        ChipDesk desk = new ChipDesk();
        Check.fault(desk, 5, Texts.fault(5));
        Check.due("put", desk.put('$', 1), true);
        Check.due("put that is refused", desk.put('$', 0), false);
        Check.noBoard("behind a fault", desk);
        for (int i = 0; i < 3; i++) {
            Check.due("place()", desk.place(), Texts.fault(5).indexOf('^'));
        }
        ChipDesk board = Check.board(Texts.KEEP);
        Check.due("drive(0, 1)", board.drive(0, 1), true);
        Check.due("tick()", board.tick(), 1);
        Check.due("put", board.put('$', 1), true);
        Check.due("drive that is refused", board.drive(1, 1), false);
        Check.due("place()", board.place(), -1);
    }
}
