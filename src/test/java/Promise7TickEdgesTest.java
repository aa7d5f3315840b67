/** Promise 7, tick: the sentences that name a boundary case. */
public final class Promise7TickEdgesTest {
    private static final String PROMISE = "Promise 7, tick";
    private static final String HOW_MANY = "how many Dff have another bit then";
    private static final String TOGETHER = "tick(): all Dff take what their in is, together";

    public static void main(String[] args) {
        noDff();
        oneDff();
        threeHundredDffs();
        zeroAtFirst();
        together();
        settlesThen();
        withoutABoard();
        refusedChangesNothing();
        Check.end();
    }

    private static void noDff() {
        Check.sentence(PROMISE, HOW_MANY);
        ChipDesk desk = Check.board(Texts.NOT);
        Check.due("tick()", desk.tick(), 0);
        Check.due("drive(0, 1)", desk.drive(0, 1), true);
        Check.due("tick()", desk.tick(), 0);
        Check.due("pin(0)", desk.pin(0), 0);
    }

    private static void oneDff() {
        Check.sentence(PROMISE, HOW_MANY);
        ChipDesk desk = Check.board(Texts.KEEP);
        int[] ins = {0, 1, 1, 0, 0, 1, 0, 1};
        int held = 0;
        for (int in : ins) {
            Check.outIs(desk, 0, held, in);
            Check.due("tick()", desk.tick(), in == held ? 0 : 1);
            Check.due("pin(0)", desk.pin(0), in);
            held = in;
        }
    }

    private static void threeHundredDffs() {
        Check.sentence(PROMISE, HOW_MANY);
        ChipDesk desk = Check.board(Texts.manyGates("Dff(in=a);") + Texts.chip("A", "U(a=a);U(a=a);T(a=a);"));
        Check.due("tick()", desk.tick(), 0);
        Check.due("drive(0, 1)", desk.drive(0, 1), true);
        Check.due("tick()", desk.tick(), 300);
        Check.due("tick()", desk.tick(), 0);
        Check.due("drive(0, 0)", desk.drive(0, 0), true);
        Check.due("tick()", desk.tick(), 300);
        ChipDesk some = Check.board(Texts.manyGates("Dff(in=a);") + Texts.chip("A", "U(a=a);U(a=true);T(a=false);"));
        Check.due("tick()", some.tick(), 144);
        Check.due("drive(0, 1)", some.drive(0, 1), true);
        Check.due("tick()", some.tick(), 144);
        Check.due("tick()", some.tick(), 0);
    }

    private static void zeroAtFirst() {
        Check.sentence(PROMISE, "what in was at the latest tick, at first 0");
        ChipDesk desk = Check.board("CHIP A{IN a;OUT o;PARTS:Dff(in=true,out=o);}");
        Check.due("pin(0) at first", desk.pin(0), 0);
        Check.due("tick()", desk.tick(), 1);
        Check.due("pin(0)", desk.pin(0), 1);
        Check.newBoard(desk, "CHIP A{IN a;OUT o;PARTS:Dff(in=true,out=o);}");
        Check.due("pin(0) at first", desk.pin(0), 0);
    }

    /** A bit goes down a chain of twelve by one Dff a tick, in both orders of the parts. */
    private static void together() {
        Check.sentence(PROMISE, TOGETHER);
        StringBuilder forth = new StringBuilder();
        StringBuilder back = new StringBuilder();
        for (int i = 0; i < 12; i++) {
            String dff = "Dff(in=" + (i == 0 ? "a" : "x" + i) + ",out=x" + (i + 1) + ",out=o[" + i + "]);";
            forth.append(dff);
            back.insert(0, dff);
        }
        String[] orders = {forth.toString(), back.toString()};
        for (String parts : orders) {
            ChipDesk desk = Check.board("CHIP A{IN a;OUT o[12];PARTS:" + parts + "}");
            Check.due("drive(0, 1)", desk.drive(0, 1), true);
            Check.due("tick()", desk.tick(), 1);
            Check.due("drive(0, 0)", desk.drive(0, 0), true);
            for (int i = 0; i < 12; i++) {
                Check.due("pin(0) behind tick " + i, desk.pin(0), 1 << i);
                Check.due("tick()", desk.tick(), i == 11 ? 1 : 2);
            }
            Check.due("pin(0)", desk.pin(0), 0);
        }
        // Two in a ring, one of which gets the other's bit turned.
        ChipDesk swap = Check.board("CHIP S{IN a;OUT o[2];PARTS:Nand(a=y,b=true,out=z);Dff(in=z,out=x,out=o[0]);"
                + "Dff(in=x,out=y,out=o[1]);}");
        int[] wants = {0, 1, 3, 2, 0, 1};
        for (int want : wants) {
            Check.due("pin(0)", swap.pin(0), want);
            Check.due("tick()", swap.tick(), 1);
        }
    }

    private static void settlesThen() {
        Check.sentence(PROMISE, "all gates settle at once, whatever changes");
        ChipDesk desk = Check.board(Texts.NOT + Texts.chain("Seven", "Not", 7)
                + Texts.chip("A", "Seven(a=x,o=o);Dff(in=a,out=x);"));
        Check.outIs(desk, 0, 1, 1);
        Check.due("gates(7)", desk.gates(7), 4);
        Check.due("tick()", desk.tick(), 1);
        Check.due("pin(0)", desk.pin(0), 0);
        Check.due("gates(7)", desk.gates(7), 3);
    }

    private static void withoutABoard() {
        Check.sentence(PROMISE, "-1 without a board");
        ChipDesk unread = new ChipDesk();
        Check.due("tick() of a new object", unread.tick(), -1);
        Check.write(unread, Texts.KEEP);
        Check.due("tick() ahead of a read", unread.tick(), -1);
        for (int kind = 1; kind <= 6; kind++) {
            ChipDesk desk = Check.board(Texts.KEEP);
            Check.due("tick()", desk.tick(), 0);
            Check.fault(desk, kind, Texts.fault(kind));
            Check.due("tick() behind fault " + kind, desk.tick(), -1);
        }
    }

    private static void refusedChangesNothing() {
        Check.sentence(PROMISE, "A call that is refused changes nothing");
        ChipDesk desk = new ChipDesk();
        Check.write(desk, Texts.KEEP);
        for (int i = 0; i < 3; i++) {
            Check.due("tick()", desk.tick(), -1);
        }
        Check.due("place()", desk.place(), -1);
        Check.due("read()", desk.read(), 0);
        Check.counts("behind refused ticks", desk, 0, 1, 1, 1, 1, 0, 0, 0);
    }
}
