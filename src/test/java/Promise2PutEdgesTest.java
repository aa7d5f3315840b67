/** Promise 2, put: the sentences that name a boundary case. */
public final class Promise2PutEdgesTest {
    private static final String PROMISE = "Promise 2, put";
    private static final String LOWEST = "The lowest n bytes of v, the highest of them first, come behind the text";
    private static final String NUMBER = "false if n is not 1 .. 8";
    private static final String FULL = "or there would be more than 2000";
    private static final String REFUSED = "A call that is refused changes nothing";

    public static void main(String[] args) {
        lowestBytesOfEachNumber();
        bytesAbove127();
        everyByteIsPut();
        behindTheText();
        numberOfBytesIs1To8();
        numberOfBytesIsNot1To8();
        upTo2000();
        moreThan2000();
        fullOnceMoreBehindARead();
        refusedNumberChangesNothing();
        refusedForRoomChangesNothing();
        Check.end();
    }

    /** All bytes of v above the lowest n are no tokens. */
    private static void lowestBytesOfEachNumber() {
        Check.sentence(PROMISE, LOWEST);
        for (int n = 1; n <= 8; n++) {
            ChipDesk desk = new ChipDesk();
            for (int at = 0; at < Texts.NOT.length(); at += n) {
                int count = Math.min(n, Texts.NOT.length() - at);
                Check.due("put by " + n, desk.put(packed(Texts.NOT.substring(at, at + count)), count), true);
            }
            Check.due("read() of bytes put by " + n, desk.read(), 0);
            Check.due("gates(0)", desk.gates(0), 1);
        }
    }

    private static long packed(String bytes) {
        long v = 0x2424242424242424L;
        for (int i = 0; i < bytes.length(); i++) {
            v = v << 8 | bytes.charAt(i);
        }
        return v;
    }

    /** A byte of 128 and more is none of the text's bytes below it, and does not spoil its neighbours. */
    private static void bytesAbove127() {
        Check.sentence(PROMISE, LOWEST);
        long[] words = {-1L, Long.MIN_VALUE, 0x80L << 56 | 0x20202020202020L};
        for (long v : words) {
            ChipDesk desk = new ChipDesk();
            Check.due("put(" + v + ", 8)", desk.put(v, 8), true);
            Check.due("read()", desk.read(), 1);
            Check.due("place()", desk.place(), 0);
        }
        ChipDesk desk = new ChipDesk();
        Check.due("put", desk.put(0x20202020202020FFL, 8), true);
        Check.due("read()", desk.read(), 1);
        Check.due("place()", desk.place(), 7);
        // In a comment they are bytes like all others.
        Check.board("/*\u0080\u00ff\u00aa*/" + Texts.EMPTY + "//\u008a\u00ff");
    }

    private static void everyByteIsPut() {
        Check.sentence(PROMISE, LOWEST);
        for (int n = 1; n <= 8; n++) {
            ChipDesk desk = new ChipDesk();
            Check.due("put of " + n + " blanks", desk.put(0x2020202020202020L, n), true);
            Check.due("read()", desk.read(), 1);
            Check.due("place() behind " + n + " blanks", desk.place(), n);
        }
    }

    private static void behindTheText() {
        Check.sentence(PROMISE, LOWEST);
        ChipDesk desk = new ChipDesk();
        Check.due("put of CHIP", desk.put(0x43484950L, 4), true);
        Check.due("put of a blank and A", desk.put(0x2041L, 2), true);
        Check.due("put of }", desk.put('}', 1), true);
        Check.due("read()", desk.read(), 1);
        Check.due("place()", desk.place(), 6);
    }

    private static void numberOfBytesIs1To8() {
        Check.sentence(PROMISE, NUMBER);
        ChipDesk desk = new ChipDesk();
        for (int n = 1; n <= 8; n++) {
            Check.due("put(32, " + n + ")", desk.put(0x2020202020202020L, n), true);
        }
        Check.due("read()", desk.read(), 1);
        Check.due("place()", desk.place(), 36);
    }

    private static void numberOfBytesIsNot1To8() {
        Check.sentence(PROMISE, NUMBER);
        int[] wrong = {0, 9, -1, -8, 10, 16, 64, 256, 257, 264, 65537, Integer.MAX_VALUE, Integer.MAX_VALUE - 1,
            Integer.MIN_VALUE, Integer.MIN_VALUE + 1, Integer.MIN_VALUE + 8};
        for (int n : wrong) {
            Check.due("put(32, " + n + ")", new ChipDesk().put(' ', n), false);
            Check.due("put(-1, " + n + ")", new ChipDesk().put(-1, n), false);
        }
    }

    private static ChipDesk withBlanks(int count) {
        ChipDesk desk = new ChipDesk();
        Check.write(desk, " ".repeat(count));
        return desk;
    }

    private static void upTo2000() {
        Check.sentence(PROMISE, FULL);
        for (int n = 1; n <= 8; n++) {
            ChipDesk desk = withBlanks(2000 - n);
            Check.due("put of " + n + " up to 2000", desk.put(0x2020202020202020L, n), true);
            Check.due("put of 1 behind 2000", desk.put(' ', 1), false);
            Check.due("put of 8 behind 2000", desk.put(' ', 8), false);
            Check.due("read()", desk.read(), 1);
            Check.due("place()", desk.place(), 2000);
        }
    }

    private static void moreThan2000() {
        Check.sentence(PROMISE, FULL);
        for (int n = 1; n <= 8; n++) {
            ChipDesk desk = withBlanks(2001 - n);
            Check.due("put of " + n + " up to 2001", desk.put(0x2020202020202020L, n), false);
            for (int more = n + 1; more <= 8; more++) {
                Check.due("put of " + more + " there", desk.put(0x2020202020202020L, more), false);
            }
            if (n > 1) {
                Check.due("put of " + (n - 1) + " up to 2000", desk.put(0x2020202020202020L, n - 1), true);
            }
            Check.due("read()", desk.read(), 1);
            Check.due("place()", desk.place(), 2000);
        }
    }

    private static void fullOnceMoreBehindARead() {
        Check.sentence(PROMISE, FULL);
        ChipDesk desk = withBlanks(2000);
        Check.due("read()", desk.read(), 1);
        Check.write(desk, " ".repeat(2000));
        Check.due("put of 1 behind 2000", desk.put(' ', 1), false);
    }

    private static void refusedNumberChangesNothing() {
        Check.sentence(PROMISE, REFUSED);
        int[] wrong = {0, 9, -1, Integer.MAX_VALUE, Integer.MIN_VALUE};
        for (int n : wrong) {
            ChipDesk desk = Check.board(Texts.NOT);
            Check.write(desk, Texts.EMPTY);
            Check.due("put(36, " + n + ")", desk.put('$', n), false);
            Check.due("pin(0)", desk.pin(0), 1);
            Check.due("place()", desk.place(), -1);
            Check.write(desk, "{");
            Check.due("read()", desk.read(), 1);
            Check.due("place()", desk.place(), Texts.EMPTY.length());
        }
    }

    private static void refusedForRoomChangesNothing() {
        Check.sentence(PROMISE, REFUSED);
        for (int n = 1; n <= 8; n++) {
            ChipDesk desk = Check.board(Texts.NOT);
            Check.write(desk, Texts.behindBlanks(2001 - n, Texts.KEEP));
            Check.due("put of " + n + " up to 2001", desk.put(0x2424242424242424L, n), false);
            Check.due("pin(0)", desk.pin(0), 1);
            Check.due("place()", desk.place(), -1);
            Check.due("read()", desk.read(), 0);
            Check.due("gates(1)", desk.gates(1), 1);
        }
    }
}
