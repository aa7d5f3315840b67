import java.util.Random;

/** Promises 5 to 8 on boards made by chance, against a model that knows no chips. */
public final class RandomBoardTest {
    private static final int INS = 3;

    private final Random random;
    private final int gates;
    private final boolean[] dff;
    /** What a gate's pins get: below 0 an IN pin (~k), else a gate. */
    private final int[] first;
    private final int[] second;
    private final boolean[] held;
    private final boolean[] in = new boolean[INS];

    private RandomBoardTest(long seed) {
        random = new Random(seed);
        gates = 1 + random.nextInt(12);
        dff = new boolean[gates];
        first = new int[gates];
        second = new int[gates];
        held = new boolean[gates];
        for (int g = 0; g < gates; g++) {
            dff[g] = random.nextInt(3) == 0;
            first[g] = source(g);
            second[g] = source(g);
        }
    }

    public static void main(String[] args) {
        for (long seed = 1; seed <= 300; seed++) {
            new RandomBoardTest(seed).run();
        }
        Check.end();
    }

    /** A Dff may get any gate's bit, a Nand only one from ahead or from a Dff. */
    private int source(int g) {
        int from = random.nextInt(gates + INS) - INS;
        return from < 0 || dff[g] || from < g || dff[from] ? from : ~(from % INS);
    }

    private String text() {
        StringBuilder text = new StringBuilder("CHIP A{IN i0,i1,i2;OUT o[" + gates + "];PARTS:");
        int[] order = new int[gates];
        for (int i = 0; i < gates; i++) {
            int j = random.nextInt(i + 1);
            order[i] = order[j];
            order[j] = i;
        }
        for (int g : order) {
            text.append(dff[g] ? "Dff(in=" + word(first[g]) : "Nand(a=" + word(first[g]) + ",b=" + word(second[g]));
            text.append(",out=g" + g + ",out=o[" + g + "]);");
        }
        return text.append('}').toString();
    }

    private static String word(int source) {
        return source < 0 ? "i" + ~source : "g" + source;
    }

    private boolean bit(int source) {
        if (source < 0) {
            return in[~source];
        }
        return dff[source] ? held[source] : !(bit(first[source]) && bit(second[source]));
    }

    private int level(int source) {
        return source < 0 || dff[source] ? 0 : 1 + Math.max(level(first[source]), level(second[source]));
    }

    private int tick() {
        boolean[] next = new boolean[gates];
        int changed = 0;
        for (int g = 0; g < gates; g++) {
            next[g] = dff[g] && bit(first[g]);
            changed += next[g] != held[g] ? 1 : 0;
        }
        System.arraycopy(next, 0, held, 0, gates);
        return changed;
    }

    private void run() {
        ChipDesk desk = Check.board(text());
        int deepest = 0;
        for (int g = 0; g < gates; g++) {
            deepest = Math.max(deepest, level(g));
        }
        Check.due("gates(5)", desk.gates(5), deepest);
        for (int i = 0; i < 40; i++) {
            if (random.nextBoolean()) {
                int k = random.nextInt(INS);
                int v = random.nextInt();
                in[k] = (v & 1) != 0;
                Check.due("drive", desk.drive(k, v), true);
            } else {
                Check.due("tick()", desk.tick(), tick());
            }
            askBits(desk);
        }
    }

    private void askBits(ChipDesk desk) {
        int number = 0;
        int ones = 0;
        for (int g = 0; g < gates; g++) {
            boolean bit = bit(g);
            number |= bit ? 1 << g : 0;
            ones += bit && !dff[g] ? 1 : 0;
        }
        Check.due("pin(0)", desk.pin(0), number);
        Check.due("gates(7)", desk.gates(7), ones);
    }
}
