import java.util.ArrayList;
import java.util.List;
import java.util.Random;

/**
 * Promises 2 to 8 on texts made by chance, most of them right or nearly right, against the model. Other seeds than
 * the usual ones are told as two arguments: the first seed, and how many.
 */
public final class RandomTextTest {
    private static final String[] PIN_NAMES = {"a", "b", "c", "d", "e", "f", "g", "h", "out", "in", "a1", "aaaaaaaaaaaaaaa_"};
    private static final String[] PIECES = {"{", "}", "(", ")", "[", "]", ",", ";", ":", "=", "..", ".", "CHIP", "IN", "OUT",
        "PARTS", "true", "false", "a", "x1", "Nand", "Dff", "0", "1", "16", "17", "007", "1a", "_", "/", "//", "/*", "*/",
        " ", "\n", "aaaaaaaaaaaaaaa_", "aaaaaaaaaaaaaaaa_", "\u00e4", "\0", "$"};
    private static final String[] BLANKS = {" ", "\n", "\t", "\r", "/**/", "/***/", "// x\n", "//\n", "/* / * */"};

    /** A pin of a chip, or an inner name, that the text has told; its width is what the chance took it for. */
    private record Wire(String name, boolean in, int width) {
    }

    private record Kind(String name, List<Wire> pins) {
    }

    private final Random random;
    private final List<Kind> kinds = new ArrayList<>();
    /** In how many of a thousand places something wrong is told. */
    private final int wrongness;
    private final int[] seen;

    private RandomTextTest(long seed, int[] seen) {
        random = new Random(seed);
        int[] often = {0, 0, 3, 10, 40};
        wrongness = often[random.nextInt(often.length)];
        this.seen = seen;
    }

    public static void main(String[] args) {
        long first = args.length == 2 ? Long.parseLong(args[0]) : 1;
        long count = args.length == 2 ? Long.parseLong(args[1]) : 6000;
        int[] seen = new int[7];
        for (long seed = first; seed < first + count; seed++) {
            new RandomTextTest(seed, seen).run();
        }
        for (int kind = 0; kind <= 6; kind++) {
            Check.due("texts with answer " + kind + " are there", seen[kind] > 0, true);
        }
        Check.end();
    }

    private boolean wrong() {
        return random.nextInt(1000) < wrongness;
    }

    private <T> T any(List<T> list) {
        return list.get(random.nextInt(list.size()));
    }

    private String any(String[] words) {
        return words[random.nextInt(words.length)];
    }

    private int upTo(int most) {
        return 1 + random.nextInt(most);
    }

    private String text() {
        int chips = wrong() ? 9 : upTo(random.nextInt(4) == 0 ? 8 : 3);
        for (int i = 0; i < chips; i++) {
            kinds.add(new Kind(wrong() ? any(new String[] {"Nand", "Dff", "C0"}) : "C" + i, pins()));
        }
        List<String> texts = new ArrayList<>();
        for (int i = 0; i < chips; i++) {
            texts.add(chip(i));
        }
        StringBuilder text = new StringBuilder(String.join("", texts));
        while (wrong() || wrong()) {
            damage(text);
        }
        return text.length() > 2000 ? text.substring(0, 2000) : text.toString();
    }

    private List<Wire> pins() {
        List<Wire> pins = new ArrayList<>();
        int count = wrong() ? 9 : 2 + random.nextInt(random.nextInt(3) == 0 ? 7 : 3);
        int ins = upTo(count - 1);
        for (int i = 0; i < count; i++) {
            String name = wrong() ? PIN_NAMES[0] : PIN_NAMES[i];
            pins.add(new Wire(name, i < ins, random.nextInt(3) > 0 ? 1 : upTo(random.nextBoolean() ? 3 : 16)));
        }
        return pins;
    }

    private String chip(int index) {
        Kind kind = kinds.get(index);
        StringBuilder text = new StringBuilder("CHIP" + blank() + " " + kind.name + "{" + blank());
        boolean ins = true;
        text.append("IN ");
        for (int i = 0; i < kind.pins.size(); i++) {
            Wire pin = kind.pins.get(i);
            text.append(i == 0 ? "" : ins && !pin.in ? ";OUT " : ",").append(pin.name).append(width(pin.width));
            ins = pin.in;
        }
        text.append(";" + blank() + "PARTS:");
        int parts = wrong() ? 13 : random.nextInt(random.nextInt(4) == 0 ? 13 : 5);
        List<Kind> used = new ArrayList<>();
        for (int i = 0; i < parts; i++) {
            used.add(kindOfPart(index));
        }
        List<Wire> inner = new ArrayList<>();
        List<String> outLinks = new ArrayList<>();
        List<boolean[]> linked = new ArrayList<>();
        kind.pins.forEach(pin -> linked.add(new boolean[16]));
        for (Kind part : used) {
            outLinks.add(outLinks(part, kind, inner, linked));
        }
        for (int i = 0; i < parts; i++) {
            text.append(part(used.get(i), kind, inner, outLinks.get(i)));
        }
        return text.append("}" + blank()).toString();
    }

    private String blank() {
        return random.nextInt(12) == 0 ? any(BLANKS) : "";
    }

    private String width(int width) {
        if (wrong()) {
            return "[" + any(new String[] {"0", "17", "00", "99", "08"}) + "]";
        }
        return width > 1 || random.nextInt(8) == 0 ? "[" + width + "]" : "";
    }

    /** Mostly a gate or a chip of one side of the text, so that there is no ring. */
    private Kind kindOfPart(int index) {
        int dice = random.nextInt(10);
        if (wrong()) {
            return new Kind("Or", kinds.get(0).pins);
        }
        if (dice < 4 || dice < 9 && index == 0 && !wrong()) {
            return new Kind("Nand", List.of(new Wire("a", true, 1), new Wire("b", true, 1), new Wire("out", false, 1)));
        }
        if (dice < 6 || index == 0 && !wrong()) {
            return new Kind("Dff", List.of(new Wire("in", true, 1), new Wire("out", false, 1)));
        }
        return kinds.get(wrong() ? random.nextInt(kinds.size()) : random.nextInt(Math.max(1, index)));
    }

    /** The links of a part's OUT pins; each begins with a comma. */
    private String outLinks(Kind part, Kind chip, List<Wire> inner, List<boolean[]> linked) {
        StringBuilder links = new StringBuilder();
        for (Wire pin : part.pins) {
            int times = pin.in ? 0 : random.nextInt(3);
            for (int i = 0; i < times; i++) {
                int low = random.nextInt(pin.width);
                int width = upTo(pin.width - low);
                boolean whole = random.nextInt(3) > 0;
                String left = pin.name + (whole ? "" : range(low, width));
                int bits = whole ? pin.width : width;
                links.append("," + left + blank() + "=" + target(chip, bits, inner, linked));
            }
        }
        return links.toString();
    }

    private String target(Kind chip, int bits, List<Wire> inner, List<boolean[]> linked) {
        if (wrong()) {
            return any(new String[] {"true", "false", chip.pins.get(0).name, "x1", "x1[0]", "a[0]"});
        }
        int k = random.nextInt(chip.pins.size());
        Wire pin = chip.pins.get(k);
        if (!pin.in && pin.width >= bits) {
            int low = random.nextInt(pin.width - bits + 1);
            boolean free = true;
            for (int i = low; i < low + bits; i++) {
                free = free && !linked.get(k)[i];
                linked.get(k)[i] = true;
            }
            if (free || wrong()) {
                return pin.name + (bits == pin.width ? "" : range(low, bits));
            }
        }
        String name = "x" + (wrong() ? 1 : inner.size() + 1);
        inner.add(new Wire(name, false, bits));
        return name;
    }

    private String range(int low, int width) {
        if (wrong()) {
            return "[" + random.nextInt(18) + ".." + random.nextInt(18) + "]";
        }
        return width == 1 && random.nextInt(4) > 0 ? "[" + low + "]" : "[" + low + ".." + (low + width - 1) + "]";
    }

    private String part(Kind part, Kind chip, List<Wire> inner, String outLinks) {
        StringBuilder links = new StringBuilder();
        for (Wire pin : part.pins) {
            int low = 0;
            while (pin.in && low < pin.width && random.nextInt(8) > 0) {
                boolean whole = low == 0 && random.nextInt(3) > 0;
                int width = whole ? pin.width : upTo(pin.width - low);
                String left = (wrong() ? any(PIN_NAMES) : pin.name) + (whole ? "" : range(wrong() ? 0 : low, width));
                links.append("," + left + "=" + source(chip, width, inner));
                low += width;
            }
        }
        String all = random.nextBoolean() ? links + outLinks : outLinks + links;
        String some = all.isEmpty() ? "," + part.pins.get(0).name + "=false" : all;
        return part.name + blank() + "(" + some.substring(1) + ")" + blank() + ";";
    }

    private String source(Kind chip, int width, List<Wire> inner) {
        if (wrong()) {
            return any(new String[] {"zz", "x1", "x2[0]", "a[0]", "b[1..0]", any(chip.pins).name});
        }
        List<String> fitting = new ArrayList<>();
        for (Wire wire : inner) {
            if (wire.width == width) {
                fitting.add(wire.name);
            }
        }
        for (Wire pin : chip.pins) {
            if (pin.in && pin.width >= width) {
                fitting.add(pin.name + (pin.width == width ? "" : range(random.nextInt(pin.width - width + 1), width)));
            }
        }
        return fitting.isEmpty() || random.nextInt(10) == 0 ? any(new String[] {"true", "false"}) : any(fitting);
    }

    private void damage(StringBuilder text) {
        int at = random.nextInt(text.length());
        if (random.nextBoolean()) {
            text.insert(at, any(PIECES));
        } else {
            text.delete(at, Math.min(text.length(), at + upTo(random.nextInt(6) == 0 ? 200 : 3)));
        }
        if (text.length() == 0) {
            text.append(' ');
        }
    }

    private void run() {
        String text = text();
        Model model = new Model(text);
        ChipDesk desk = new ChipDesk();
        Check.write(desk, text);
        Check.due("read() of " + text, desk.read(), model.kind);
        Check.due("place() of " + text, desk.place(), model.place);
        seen[model.kind]++;
        for (int i = 0; i < 12; i++) {
            int k = random.nextInt(9) - 1;
            int v = random.nextInt();
            Check.due("drive(" + k + ", " + v + ") of " + text, desk.drive(k, v), model.drive(k, v));
            if (i % 3 == 2) {
                Check.due("tick() of " + text, desk.tick(), model.tick());
            }
            for (int out = 0; out < 8; out++) {
                Check.due("pin(" + out + ") of " + text, desk.pin(out), model.pin(out));
            }
        }
        for (int what = -1; what <= 8; what++) {
            Check.due("gates(" + what + ") of " + text, desk.gates(what), model.gates(what));
        }
    }
}
