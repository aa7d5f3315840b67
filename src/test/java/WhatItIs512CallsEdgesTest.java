import com.sun.management.ThreadMXBean;
import java.lang.management.ManagementFactory;

/** What it is: an object is used for at most 512 calls. All promises hold up to the last of them. */
public final class WhatItIs512CallsEdgesTest {
    private static final String PROMISE = "What it is";
    private static final String CALLS = "An object is used for at most 512 calls after it has been made";
    private static final int MOST_CALLS = 512;
    /** An element takes a byte at least and an object sixteen, so that fewer bytes than these fit both rooms. */
    private static final long ROOM_BYTES = 7_300_000;
    private static final int BYTES_A_CALL = 8;

    public static void main(String[] args) {
        lastCallCountsItsTick();
        lastCallReads();
        lastCallPuts();
        lastCallDrivesAndAsks();
        dearestCallsHaveRoom();
        Check.end();
    }

    /** A new object that has been called that often, and has a board at the end. */
    private static ChipDesk called(int calls, String text) {
        ChipDesk desk = new ChipDesk();
        int puts = (text.length() + BYTES_A_CALL - 1) / BYTES_A_CALL;
        for (int i = 0; i < calls - puts - 1; i++) {
            Check.due("read()", desk.read(), 1);
        }
        Check.write(desk, text);
        Check.due("read()", desk.read(), 0);
        return desk;
    }

    private static void lastCallCountsItsTick() {
        Check.sentence(PROMISE, CALLS);
        ChipDesk desk = called(20, Texts.KEEP);
        for (int call = 21; call < MOST_CALLS; call++) {
            Check.due("tick() as call " + call, desk.tick(), 0);
        }
        Check.due("gates(6) as the last call", desk.gates(6), MOST_CALLS - 21);
    }

    private static void lastCallReads() {
        Check.sentence(PROMISE, CALLS);
        called(MOST_CALLS, Texts.NOT);
        ChipDesk desk = called(MOST_CALLS - 1, Texts.behindBlanks(2000, Texts.NOT));
        Check.due("place() as the last call", desk.place(), -1);
    }

    private static void lastCallPuts() {
        Check.sentence(PROMISE, CALLS);
        ChipDesk desk = called(MOST_CALLS - 251, Texts.NOT);
        Check.write(desk, " ".repeat(2000));
        Check.due("put as the last call", desk.put(' ', 1), false);
    }

    private static void lastCallDrivesAndAsks() {
        Check.sentence(PROMISE, CALLS);
        Check.due("drive as the last call", called(MOST_CALLS - 1, Texts.NOT).drive(0, 1), true);
        Check.due("pin as the last call", called(MOST_CALLS - 1, Texts.NOT).pin(0), 1);
        Check.due("tick as the last call", called(MOST_CALLS - 1, Texts.NOT).tick(), 0);
    }

    /** The same text over and over, as often as 512 calls allow. */
    private static void dearestCallsHaveRoom() {
        Check.sentence("The room of one run", "some 600,000 objects and arrays, 7.3 million fields and elements");
        String[] texts = {"", "CHIP A{", "CHIP A{IN a;OUT o;PARTS:}", Texts.NOT, fullOfLinks(), fullOfChips(),
            Texts.manyGates("Nand(a=a);") + Texts.chip("A", "U(a=a);U(a=a);T(a=a);")};
        for (String text : texts) {
            Check.due("bytes for " + text + " fit", bytesOf(text) < ROOM_BYTES, true);
        }
    }

    private static String fullOfLinks() {
        return "CHIP A{IN a;OUT o;PARTS:Nand(a=a" + ",a=a".repeat(244) + ");}";
    }

    private static String fullOfChips() {
        StringBuilder text = new StringBuilder();
        for (int i = 1; i <= 8; i++) {
            text.append(Texts.chip("C" + i, Texts.times(12, "Dff(in=a);")));
        }
        return text.toString();
    }

    private static long bytesOf(String text) {
        ThreadMXBean threads = (ThreadMXBean) ManagementFactory.getThreadMXBean();
        long[] words = new long[(text.length() + BYTES_A_CALL - 1) / BYTES_A_CALL];
        for (int i = 0; i < BYTES_A_CALL * words.length; i++) {
            words[i / BYTES_A_CALL] = words[i / BYTES_A_CALL] << 8 | (i < text.length() ? text.charAt(i) : ' ');
        }
        long before = threads.getCurrentThreadAllocatedBytes();
        ChipDesk desk = new ChipDesk();
        for (int call = 0; call < MOST_CALLS; call++) {
            int at = call % (words.length + 1);
            if (at < words.length) {
                desk.put(words[at], BYTES_A_CALL);
            } else {
                desk.read();
            }
        }
        return threads.getCurrentThreadAllocatedBytes() - before;
    }
}
