/** Promise 1, a new object: the sentences that name a boundary case. */
public final class Promise1NewObjectEdgesTest {
    private static final String PROMISE = "Promise 1, a new object";

    public static void main(String[] args) {
        noText();
        noTextTakesAFullOne();
        noBoard();
        refusedCallsLeaveItNew();
        allMemoryIsTheClassesOwn();
        Check.end();
    }

    private static void noText() {
        Check.sentence(PROMISE, "No text");
        ChipDesk desk = new ChipDesk();
        Check.due("read()", desk.read(), 1);
        Check.due("place()", desk.place(), 0);
    }

    private static void noTextTakesAFullOne() {
        Check.sentence(PROMISE, "No text");
        ChipDesk desk = new ChipDesk();
        Check.write(desk, Texts.behindBlanks(2000, Texts.EMPTY));
        Check.due("put of a 2001st byte", desk.put(' ', 1), false);
        Check.due("read()", desk.read(), 0);
    }

    private static void noBoard() {
        Check.sentence(PROMISE, "no board");
        ChipDesk desk = new ChipDesk();
        Check.noBoard("of a new object", desk);
        Check.due("place()", desk.place(), -1);
    }

    private static void refusedCallsLeaveItNew() {
        Check.sentence(PROMISE, "A call that is refused changes nothing");
        ChipDesk desk = new ChipDesk();
        Check.due("put(36, 0)", desk.put('$', 0), false);
        Check.due("put(36, 9)", desk.put('$', 9), false);
        Check.noBoard("of a new object", desk);
        Check.due("place()", desk.place(), -1);
        Check.newBoard(desk, Texts.EMPTY);
        Check.counts("behind refused ticks", desk, 0, 0, 1, 1, 1, 0, 0, 0);
    }

    private static void allMemoryIsTheClassesOwn() {
        Check.sentence(PROMISE, "All memory is the class's own");
        ChipDesk one = Check.board(Texts.KEEP);
        ChipDesk other = new ChipDesk();
        Check.noBoard("of the other object", other);
        Check.write(one, Texts.NOT);
        Check.newBoard(other, Texts.KEEP);
        Check.due("drive(0, 1) of the one", one.drive(0, 1), true);
        Check.due("tick() of the one", one.tick(), 1);
        Check.due("tick() of the other", other.tick(), 0);
        Check.due("read() of the other", other.read(), 1);
        Check.due("pin(0) of the one", one.pin(0), 1);
        Check.due("place() of the one", one.place(), -1);
        Check.due("read() of the one", one.read(), 0);
        Check.due("gates(0) of the one", one.gates(0), 1);
        Check.noBoard("of the other object", other);
    }
}
