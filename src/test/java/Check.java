import java.nio.charset.StandardCharsets;

/** What all tests of the project share. */
final class Check {
    private static int asked = 0;
    private static int wrong = 0;

    private Check() {
    }

    static void due(String call, long got, long want) {
        asked++;
        if (got != want) {
            wrong++;
            System.out.println(call + " answered " + got + ", due is " + want);
        }
    }

    static void due(String call, boolean got, boolean want) {
        due(call, got ? 1 : 0, want ? 1 : 0);
    }

    /** Puts a text of characters 0 to 255 in, eight bytes a call. */
    static void write(ChipDesk desk, String text) {
        byte[] bytes = text.getBytes(StandardCharsets.ISO_8859_1);
        for (int i = 0; i < bytes.length; i += 8) {
            int n = Math.min(8, bytes.length - i);
            long v = 0;
            for (int j = 0; j < n; j++) {
                v = v << 8 | bytes[i + j] & 255;
            }
            due("put for " + text, desk.put(v, n), true);
        }
    }

    /** A new desk with the text's last chip as its board. */
    static ChipDesk board(String text) {
        ChipDesk desk = new ChipDesk();
        write(desk, text);
        due("read() of " + text, desk.read(), 0);
        due("place() of " + text, desk.place(), -1);
        return desk;
    }

    /** The text must have that fault where its ^ stands, which is no part of it. */
    static void fault(int kind, String marked) {
        int place = marked.indexOf('^');
        String text = marked.substring(0, place) + marked.substring(place + 1);
        ChipDesk desk = new ChipDesk();
        write(desk, text);
        due("read() of " + marked, desk.read(), kind);
        due("place() of " + marked, desk.place(), place);
        due("tick() behind " + marked, desk.tick(), -1);
    }

    /** Drives the pins in turn and asks what stands on OUT pin k then. */
    static void outIs(ChipDesk desk, int k, int want, int... values) {
        StringBuilder call = new StringBuilder("pin(" + k + ") with");
        for (int i = 0; i < values.length; i++) {
            due("drive(" + i + ", " + values[i] + ")", desk.drive(i, values[i]), true);
            call.append(' ').append(values[i]);
        }
        due(call.toString(), desk.pin(k), want);
    }

    /** Ends the test, with exit code 1 if an answer was wrong. */
    static void end() {
        System.out.println(asked + " answers, " + wrong + " wrong");
        if (wrong != 0 || asked == 0) {
            System.exit(1);
        }
    }
}
