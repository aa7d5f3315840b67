/** Promise 2: put. */
public final class PutTest {
    private static final String NOT = "CHIP A{IN a;OUT o;PARTS:Nand(a=a,b=a,out=o);}";

    public static void main(String[] args) {
        highestByteFirst();
        onlyTheLowestBytes();
        everyNumberOfBytes();
        wrongNumbersOfBytes();
        atMost2000();
        refusedPutChangesNothing();
        putLeavesTheBoard();
        Check.end();
    }

    private static void highestByteFirst() {
        ChipDesk desk = new ChipDesk();
        // "CHIP A ^" leads to a fault at the eighth byte, which is 0.
        Check.due("put", desk.put(0x4348495020412000L, 8), true);
        Check.due("read()", desk.read(), 1);
        Check.due("place()", desk.place(), 7);
    }

    private static void onlyTheLowestBytes() {
        ChipDesk desk = new ChipDesk();
        byte[] bytes = NOT.getBytes();
        for (byte b : bytes) {
            Check.due("put", desk.put(0x2424242424242400L | b, 1), true);
        }
        Check.due("read()", desk.read(), 0);
    }

    private static void everyNumberOfBytes() {
        for (int n = 1; n <= 8; n++) {
            ChipDesk desk = new ChipDesk();
            for (int at = 0; at < NOT.length(); at += n) {
                int count = Math.min(n, NOT.length() - at);
                long v = -1;
                for (int i = 0; i < count; i++) {
                    v = v << 8 | NOT.charAt(at + i);
                }
                Check.due("put", desk.put(v, count), true);
            }
            Check.due("read() of bytes by " + n, desk.read(), 0);
            Check.due("pin(0)", desk.pin(0), 1);
        }
    }

    private static void wrongNumbersOfBytes() {
        ChipDesk desk = new ChipDesk();
        int[] wrong = {0, -1, 9, 10, 64, 256, 257, Integer.MAX_VALUE, Integer.MIN_VALUE};
        for (int n : wrong) {
            Check.due("put(36, " + n + ")", desk.put(36, n), false);
        }
        Check.write(desk, NOT);
        Check.due("read()", desk.read(), 0);
    }

    private static void atMost2000() {
        ChipDesk desk = new ChipDesk();
        for (int i = 0; i < 249; i++) {
            Check.due("put of blanks", desk.put(0x2020202020202020L, 8), true);
        }
        Check.due("put of 7 behind 1992", desk.put(0x20202020202020L, 7), true);
        Check.due("put of 2 behind 1999", desk.put(0x2020L, 2), false);
        Check.due("put of 8 behind 1999", desk.put(0x2020L, 8), false);
        Check.due("put of 1 behind 1999", desk.put(0x20L, 1), true);
        Check.due("put of 1 behind 2000", desk.put(0x20L, 1), false);
        Check.due("read()", desk.read(), 1);
        Check.due("place()", desk.place(), 2000);
        Check.due("put behind read", desk.put(0x20L, 1), true);
        Check.due("read()", desk.read(), 1);
        Check.due("place()", desk.place(), 1);
    }

    private static void refusedPutChangesNothing() {
        ChipDesk desk = new ChipDesk();
        Check.write(desk, " ".repeat(1996 - NOT.length()) + NOT);
        Check.due("put of 8 behind 1996", desk.put(0x2424242424242424L, 8), false);
        Check.due("put of 5 behind 1996", desk.put(0x2424242424242424L, 5), false);
        Check.due("put of 4 behind 1996", desk.put(0x20202020L, 4), true);
        Check.due("read()", desk.read(), 0);
    }

    private static void putLeavesTheBoard() {
        ChipDesk desk = Check.board(NOT);
        Check.write(desk, "what is no chip");
        Check.due("pin(0)", desk.pin(0), 1);
        Check.due("place()", desk.place(), -1);
    }
}
