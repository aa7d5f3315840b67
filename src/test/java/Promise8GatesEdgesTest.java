/** Promise 8, gates: the sentences that name a boundary case. */
public final class Promise8GatesEdgesTest {
    private static final String PROMISE = "Promise 8, gates";
    private static final String CHAIN = "5 how many Nands there are at most one behind the other between pins and Dffs";
    private static final String ONES = "7 Nands that give 1 now";

    public static void main(String[] args) {
        nands();
        dffs();
        inAndOutPins();
        chips();
        noNandBehindTheOther();
        threeHundredNandsOneBehindTheOther();
        longestOfSeveralChains();
        dffPartsAChain();
        ticks();
        nandsThatGive1();
        anotherWhat();
        withoutABoard();
        refusedChangesNothing();
        Check.end();
    }

    private static String board300(String gate) {
        return Texts.manyGates(gate) + Texts.chip("A", "U(a=a);U(a=a);T(a=a);");
    }

    private static void nands() {
        Check.sentence(PROMISE, "0 Nands");
        Check.due("gates(0) of none", Check.board(Texts.KEEP).gates(0), 0);
        Check.due("gates(0) of one", Check.board(Texts.NOT).gates(0), 1);
        Check.due("gates(0) of all", Check.board(board300("Nand(a=a);")).gates(0), 300);
    }

    private static void dffs() {
        Check.sentence(PROMISE, "1 Dffs");
        Check.due("gates(1) of none", Check.board(Texts.NOT).gates(1), 0);
        Check.due("gates(1) of one", Check.board(Texts.KEEP).gates(1), 1);
        Check.due("gates(1) of all", Check.board(board300("Dff(in=a);")).gates(1), 300);
    }

    private static void inAndOutPins() {
        Check.sentence(PROMISE, "2 IN pins, 3 OUT pins");
        ChipDesk few = Check.board("CHIP B{IN a,b,c;OUT o,p,q;PARTS:}CHIP A{IN a[16];OUT o[16];PARTS:B(a=a[0]);}");
        Check.due("gates(2) of one", few.gates(2), 1);
        Check.due("gates(3) of one", few.gates(3), 1);
        ChipDesk ins = Check.board("CHIP A{IN a,b,c,d,e,f,g;OUT o;PARTS:}");
        Check.due("gates(2) of seven", ins.gates(2), 7);
        Check.due("gates(3) of one", ins.gates(3), 1);
        ChipDesk outs = Check.board("CHIP A{IN a;OUT o,p,q,r,s,t,u;PARTS:}");
        Check.due("gates(2) of one", outs.gates(2), 1);
        Check.due("gates(3) of seven", outs.gates(3), 7);
    }

    private static void chips() {
        Check.sentence(PROMISE, "4 chips of the text");
        StringBuilder text = new StringBuilder();
        for (int n = 1; n <= 8; n++) {
            text.append(Texts.chip("C" + n, "Nand(a=a);Dff(in=a);"));
            Check.due("gates(4)", Check.board(text.toString()).gates(4), n);
        }
        ChipDesk desk = Check.board(text.toString());
        Check.newBoard(desk, Texts.NOT);
        Check.due("gates(4) of the next text", desk.gates(4), 1);
    }

    private static void noNandBehindTheOther() {
        Check.sentence(PROMISE, CHAIN);
        Check.due("gates(5) of no gates", Check.board(Texts.EMPTY).gates(5), 0);
        Check.due("gates(5) of Dffs", Check.board(board300("Dff(in=a);")).gates(5), 0);
        Check.due("gates(5) of Nands beside each other", Check.board(board300("Nand(a=a);")).gates(5), 1);
    }

    private static void threeHundredNandsOneBehindTheOther() {
        Check.sentence(PROMISE, CHAIN);
        String below = Texts.NOT + Texts.chain("Five", "Not", 5) + Texts.chain("Sixty", "Five", 12);
        ChipDesk desk = Check.board(below + Texts.chain("All", "Sixty", 5));
        Check.due("gates(5)", desk.gates(5), 300);
        Check.newBoard(desk, Texts.NOT);
        Check.due("gates(5) of the next text", desk.gates(5), 1);
    }

    private static void longestOfSeveralChains() {
        Check.sentence(PROMISE, CHAIN);
        for (int n = 1; n <= 11; n++) {
            String chain = Texts.chain("Chain", "Not", n);
            String[] boards = {"Chain(a=a,o=x);Nand(a=x,b=a,out=o);", "Nand(a=a,b=x,out=o);Chain(a=a,o=x);",
                "Not(a=a,o=y);Chain(a=a,o=x);Nand(a=y,b=x,out=o);"};
            for (String parts : boards) {
                Check.due("gates(5) of " + parts, Check.board(Texts.NOT + chain + Texts.chip("A", parts)).gates(5), n + 1);
            }
            ChipDesk two = Check.board(Texts.NOT + chain + Texts.chip("A", "Not(a=a,o=o);Chain(a=a);"));
            Check.due("gates(5) of two chains", two.gates(5), n);
        }
    }

    /** Eleven Nands one behind the other, with a Dff behind that many of them. */
    private static void dffPartsAChain() {
        Check.sentence(PROMISE, CHAIN);
        for (int ahead = 0; ahead <= 11; ahead++) {
            StringBuilder parts = new StringBuilder("Dff(in=" + (ahead == 0 ? "a" : "x" + ahead) + ",out=d);");
            for (int i = 0; i < 11; i++) {
                String in = i == 0 ? "a" : "x" + i;
                parts.append("Not(a=" + (i == ahead ? "d" : in) + ",o=x" + (i + 1) + ");");
            }
            ChipDesk desk = Check.board(Texts.NOT + Texts.chip("A", parts.toString()));
            Check.due("gates(5) of " + parts, desk.gates(5), Math.max(ahead, 11 - ahead));
        }
    }

    private static void ticks() {
        Check.sentence(PROMISE, "6 ticks");
        ChipDesk desk = Check.board(Texts.KEEP);
        for (int n = 0; n < 200; n++) {
            Check.due("gates(6)", desk.gates(6), n);
            Check.due("tick()", desk.tick(), 0);
        }
        Check.newBoard(desk, Texts.KEEP);
        Check.due("gates(6) of a new board", desk.gates(6), 0);
    }

    private static void nandsThatGive1() {
        Check.sentence(PROMISE, ONES);
        ChipDesk desk = Check.board(board300("Nand(a=a,b=a);"));
        Check.due("gates(7) at first", desk.gates(7), 300);
        Check.due("drive(0, 1)", desk.drive(0, 1), true);
        Check.due("gates(7)", desk.gates(7), 0);
        Check.due("drive(0, 0)", desk.drive(0, 0), true);
        Check.due("gates(7)", desk.gates(7), 300);
        ChipDesk dffs = Check.board(board300("Dff(in=a);"));
        Check.due("drive(0, 1)", dffs.drive(0, 1), true);
        Check.due("tick()", dffs.tick(), 300);
        Check.due("gates(7) of Dffs", dffs.gates(7), 0);
        ChipDesk behind = Check.board("CHIP A{IN a;OUT o;PARTS:Dff(in=true,out=x);Nand(a=x,b=x);}");
        Check.due("gates(7) ahead of a tick", behind.gates(7), 1);
        Check.due("tick()", behind.tick(), 1);
        Check.due("gates(7) behind a tick", behind.gates(7), 0);
    }

    private static void anotherWhat() {
        Check.sentence(PROMISE, "-1 for another what");
        ChipDesk desk = Check.board(Texts.NOT);
        Check.counts("of a board", desk, 1, 0, 1, 1, 1, 1, 0, 1);
        int[] others = {-1, 8, 9, -8, 16, 256, 263, 65536, Integer.MAX_VALUE, Integer.MIN_VALUE};
        for (int what : others) {
            Check.due("gates(" + what + ")", desk.gates(what), -1);
        }
    }

    private static void withoutABoard() {
        Check.sentence(PROMISE, "-1 without a board");
        Check.counts("of a new object", new ChipDesk(), -1, -1, -1, -1, -1, -1, -1, -1);
        ChipDesk unread = new ChipDesk();
        Check.write(unread, Texts.NOT);
        Check.counts("ahead of a read", unread, -1, -1, -1, -1, -1, -1, -1, -1);
        for (int kind = 1; kind <= 6; kind++) {
            ChipDesk desk = Check.board(Texts.NOT);
            Check.fault(desk, kind, Texts.fault(kind));
            Check.counts("behind fault " + kind, desk, -1, -1, -1, -1, -1, -1, -1, -1);
        }
    }

    private static void refusedChangesNothing() {
        Check.sentence(PROMISE, "A call that is refused changes nothing");
        ChipDesk desk = Check.board(Texts.NOT);
        Check.due("drive(0, 1)", desk.drive(0, 1), true);
        Check.due("tick()", desk.tick(), 0);
        Check.due("gates(8)", desk.gates(8), -1);
        Check.due("gates(-1)", desk.gates(-1), -1);
        Check.counts("behind refused calls", desk, 1, 0, 1, 1, 1, 1, 1, 0);
        Check.due("pin(0)", desk.pin(0), 0);
        Check.due("place()", desk.place(), -1);
    }
}
