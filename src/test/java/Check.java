import java.nio.charset.StandardCharsets;

/** What all tests of the project share. */
final class Check {
    private static int asked = 0;
    private static int wrong = 0;
    private static int sentences = 0;
    private static String sentence = "";

    private Check() {
    }

    /** Says which sentence of the document the answers from here on are due by. */
    static void sentence(String promise, String told) {
        sentences++;
        sentence = promise + ", \"" + told + "\": ";
    }

    static void due(String call, long got, long want) {
        asked++;
        if (got != want) {
            wrong++;
            System.out.println(sentence + call + " answered " + got + ", due is " + want);
        }
    }

    static void due(String call, boolean got, boolean want) {
        due(call, got ? 1 : 0, want ? 1 : 0);
    }

    /** Puts a text of characters 0 to 255 in, eight bytes a call. */
    static void write(ChipDesk desk, String text) {
        byte[] bytes = text.getBytes(StandardCharsets.ISO_8859_1);
        for (int i = 0; i < bytes.length; i += 8) {
            int n = Math.min(8, bytes.length - i);
            long v = 0;
            for (int j = 0; j < n; j++) {
                v = v << 8 | bytes[i + j] & 255;
            }
            due("put for " + text, desk.put(v, n), true);
        }
    }

    /** A new desk with the text's last chip as its board. */
    static ChipDesk board(String text) {
        ChipDesk desk = new ChipDesk();
        newBoard(desk, text);
        return desk;
    }

    /** The desk gets the text's last chip as its board. */
    static void newBoard(ChipDesk desk, String text) {
        write(desk, text);
        due("read() of " + text, desk.read(), 0);
        due("place() of " + text, desk.place(), -1);
    }

    /** The text must have that fault where its ^ stands, which is no part of it. */
    static void fault(int kind, String marked) {
        fault(new ChipDesk(), kind, marked);
    }

    static void fault(ChipDesk desk, int kind, String marked) {
        int place = marked.indexOf('^');
        faultAt(desk, kind, place, marked.substring(0, place) + marked.substring(place + 1));
    }

    /** For texts in which a ^ may stand for itself. */
    static void faultAt(int kind, int place, String text) {
        faultAt(new ChipDesk(), kind, place, text);
    }

    private static void faultAt(ChipDesk desk, int kind, int place, String text) {
        write(desk, text);
        due("read() of " + text, desk.read(), kind);
        due("place() of " + text, desk.place(), place);
        due("tick() behind " + text, desk.tick(), -1);
    }

    /** All that asks for a board must be refused. */
    static void noBoard(String where, ChipDesk desk) {
        for (int k = -1; k <= 8; k++) {
            due("drive(" + k + ", 1) " + where, desk.drive(k, 1), false);
            due("pin(" + k + ") " + where, desk.pin(k), -1);
            due("gates(" + k + ") " + where, desk.gates(k), -1);
        }
        due("tick() " + where, desk.tick(), -1);
    }

    /** All counts of the board, from gates(0) on. */
    static void counts(String where, ChipDesk desk, int... wants) {
        for (int what = 0; what < wants.length; what++) {
            due("gates(" + what + ") " + where, desk.gates(what), wants[what]);
        }
    }

    /** Drives the pins in turn and asks what stands on OUT pin k then. */
    static void outIs(ChipDesk desk, int k, int want, int... values) {
        StringBuilder call = new StringBuilder("pin(" + k + ") with");
        for (int i = 0; i < values.length; i++) {
            due("drive(" + i + ", " + values[i] + ")", desk.drive(i, values[i]), true);
            call.append(' ').append(values[i]);
        }
        due(call.toString(), desk.pin(k), want);
    }

    /** Ends the test, with exit code 1 if an answer was wrong. */
    static void end() {
        System.out.println((sentences == 0 ? "" : sentences + " sentences, ") + asked + " answers, " + wrong + " wrong");
        if (wrong != 0 || asked == 0) {
            System.exit(1);
        }
    }
}
