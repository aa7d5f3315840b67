import java.util.ArrayList;
import java.util.HashMap;
import java.util.LinkedHashSet;
import java.util.List;
import java.util.Map;
import java.util.Set;
import java.util.regex.Matcher;
import java.util.regex.Pattern;

/**
 * A second reading of the document for the tests, slow and plain: it gathers all faults 3 to 5 of a text and then
 * takes the first, and it asks each bit of the board for where it comes from instead of laying the board out.
 */
final class Model {
    /** Ends the reading of a text at its fault 1 or 2. */
    private static final class Found extends RuntimeException {
        private static final long serialVersionUID = 1L;
        final int kind;
        final int place;

        Found(int kind, int place) {
            this.kind = kind;
            this.place = place;
        }
    }

    record Word(String told, int place) {
    }

    record Pin(Word name, boolean in, int told, int numberPlace) {
        int width() {
            return told >= 1 && told <= 16 ? told : 1;
        }
    }

    /** The place is that of the range's [, or -1 without a range. */
    record Side(Word name, int place, int low, int high) {
        boolean fits(int width) {
            return place < 0 || low <= high && high < width;
        }

        int first() {
            return place < 0 ? 0 : low;
        }

        int width(int whole) {
            return place < 0 ? whole : high - low + 1;
        }

        boolean has(int bit, int whole) {
            return bit >= first() && bit < first() + width(whole);
        }

        boolean constant() {
            return name.told.equals("true") || name.told.equals("false");
        }
    }

    record Link(Side left, Side right) {
    }

    record Part(Word name, List<Link> links) {
    }

    record Chip(Word name, List<Pin> pins, List<Part> parts) {
        Pin pin(String wanted) {
            return pins.stream().filter(pin -> pin.name.told.equals(wanted)).findFirst().orElse(null);
        }

        List<Pin> pins(boolean in) {
            return pins.stream().filter(pin -> pin.in == in).toList();
        }

        boolean gate() {
            return this == NAND || this == DFF;
        }
    }

    private static final Chip NAND = gate("Nand", "a", "b");
    private static final Chip DFF = gate("Dff", "in");

    private static Chip gate(String name, String... ins) {
        List<Pin> pins = new ArrayList<>();
        for (String in : ins) {
            pins.add(new Pin(new Word(in, -1), true, 1, -1));
        }
        pins.add(new Pin(new Word("out", -1), false, 1, -1));
        return new Chip(new Word(name, -1), pins, List.of());
    }

    private final ModelParser parser;
    final int kind;
    final int place;
    private final List<int[]> faults = new ArrayList<>();
    private final Map<String, Integer> driven = new HashMap<>();
    private Map<String, Boolean> held = new HashMap<>();
    /** What each Nand gives, till something changes. */
    private final Map<String, Boolean> settled = new HashMap<>();
    private final List<String> nands = new ArrayList<>();
    private final List<String> dffs = new ArrayList<>();
    /** The chip at each path, and the part that it is. */
    private final Map<String, Chip> chipAt = new HashMap<>();
    private final Map<String, Part> partAt = new HashMap<>();
    private final Map<String, Integer> depth = new HashMap<>();
    private final Map<String, Long> gatesOf = new HashMap<>();
    private final Map<String, Long> bitsOf = new HashMap<>();
    private int ticks = 0;

    Model(String text) {
        parser = new ModelParser(text);
        int[] fault = firstFault(text.length());
        kind = fault == null ? 0 : fault[0];
        place = fault == null ? -1 : fault[1];
    }

    private int[] firstFault(int length) {
        try {
            parser.parse();
        } catch (Found found) {
            return new int[] {found.kind, found.place};
        }
        parser.chips.forEach(this::gather);
        if (!faults.isEmpty()) {
            faults.sort((a, b) -> a[1] != b[1] ? a[1] - b[1] : a[0] - b[0]);
            return faults.get(0);
        }
        for (Chip chip : parser.chips) {
            if (inside(chip).contains(chip.name.told)) {
                return new int[] {6, chip.name.place};
            }
        }
        return boardFits() ? null : new int[] {6, length};
    }

    private void fault(int number, int at) {
        faults.add(new int[] {number, at});
    }

    private Chip chip(String name) {
        if (name.equals("Nand") || name.equals("Dff")) {
            return name.equals("Nand") ? NAND : DFF;
        }
        return parser.chips.stream().filter(chip -> chip.name.told.equals(name)).findFirst().orElse(null);
    }

    private void gather(Chip chip) {
        if (chip(chip.name.told) != chip) {
            fault(3, chip.name.place);
        }
        for (Pin pin : chip.pins) {
            if (chip.pin(pin.name.told) != pin) {
                fault(3, pin.name.place);
            }
            if (pin.told < 1 || pin.told > 16) {
                fault(5, pin.numberPlace);
            }
        }
        List<Link> ahead = new ArrayList<>();
        for (Part part : chip.parts) {
            Chip used = chip(part.name.told);
            if (used == null) {
                fault(4, part.name.place);
                continue;
            }
            for (int i = 0; i < part.links.size(); i++) {
                Link link = part.links.get(i);
                Pin pin = used.pin(link.left.name.told);
                if (pin == null) {
                    fault(4, link.left.name.place);
                    continue;
                }
                if (!link.left.fits(pin.width())) {
                    fault(5, link.left.place);
                }
                if (pin.in) {
                    gatherIn(chip, used, link, part.links.subList(0, i));
                } else {
                    gatherOut(chip, pin, link, ahead);
                    ahead.add(link);
                }
            }
        }
    }

    private static boolean overlap(Side one, Side other, int width) {
        if (!one.name.told.equals(other.name.told) || !one.fits(width) || !other.fits(width)) {
            return false;
        }
        for (int bit = 0; bit < width; bit++) {
            if (one.has(bit, width) && other.has(bit, width)) {
                return true;
            }
        }
        return false;
    }

    private void gatherIn(Chip chip, Chip used, Link link, List<Link> ahead) {
        Side left = link.left;
        Side right = link.right;
        int width = used.pin(left.name.told).width();
        if (ahead.stream().anyMatch(other -> overlap(other.left, left, width))) {
            fault(3, left.name.place);
        }
        if (right.constant()) {
            return;
        }
        Pin pin = chip.pin(right.name.told);
        if (pin != null) {
            if (!pin.in) {
                fault(4, right.name.place);
            }
            sameWidth(link, width, pin.width());
            return;
        }
        Link giver = giver(chip, right.name.told);
        if (giver == null) {
            fault(4, right.name.place);
        }
        if (right.place >= 0) {
            fault(5, right.place);
        } else if (giver != null && innerWidth(chip, right.name.told) > 0) {
            sameWidth(link, width, innerWidth(chip, right.name.told));
        }
    }

    private void gatherOut(Chip chip, Pin from, Link link, List<Link> ahead) {
        Side right = link.right;
        Pin pin = right.constant() ? null : chip.pin(right.name.told);
        if (right.constant() || pin != null && pin.in) {
            fault(4, right.name.place);
        }
        if (right.constant()) {
            return;
        }
        boolean linked = pin != null ? ahead.stream().anyMatch(other -> overlap(other.right, right, pin.width()))
                : ahead.stream().anyMatch(other -> other.right.name.told.equals(right.name.told));
        if (linked) {
            fault(3, right.name.place);
        }
        if (pin != null) {
            sameWidth(link, from.width(), pin.width());
        } else if (right.place >= 0) {
            fault(5, right.place);
        }
    }

    /** Of widths nothing is asked where a range is faulty. */
    private void sameWidth(Link link, int left, int right) {
        if (!link.right.fits(right)) {
            fault(5, link.right.place);
        } else if (link.left.fits(left) && link.left.width(left) != link.right.width(right)) {
            fault(5, link.right.name.place);
        }
    }

    /** The first link from an OUT pin to an inner name. */
    private Link giver(Chip chip, String name) {
        for (Part part : chip.parts) {
            for (Link link : part.links) {
                Pin pin = chip(part.name.told) == null ? null : chip(part.name.told).pin(link.left.name.told);
                if (pin != null && !pin.in && link.right.name.told.equals(name)) {
                    return link;
                }
            }
        }
        return null;
    }

    /** 0 if it is not asked. */
    private int innerWidth(Chip chip, String name) {
        Link giver = giver(chip, name);
        for (Part part : chip.parts) {
            if (giver != null && part.links.contains(giver)) {
                int width = chip(part.name.told).pin(giver.left.name.told).width();
                return giver.left.fits(width) ? giver.left.width(width) : 0;
            }
        }
        return 0;
    }

    /** The names of all chips that are in it, however deep. */
    private Set<String> inside(Chip chip) {
        Set<String> names = new LinkedHashSet<>();
        List<Chip> open = new ArrayList<>(List.of(chip));
        while (!open.isEmpty()) {
            for (Part part : open.remove(0).parts) {
                if (names.add(part.name.told)) {
                    open.add(chip(part.name.told));
                }
            }
        }
        return names;
    }

    private boolean boardFits() {
        Chip board = board();
        if (amount(board, true) > 300 || amount(board, false) > 8000) {
            return false;
        }
        place("", board, null);
        return nands.stream().allMatch(nand -> depth(nand) >= 0);
    }

    private Chip board() {
        return parser.chips.get(parser.chips.size() - 1);
    }

    /** The gates, or the bits, of a chip and of all that is in it. */
    private long amount(Chip chip, boolean gates) {
        Map<String, Long> known = gates ? gatesOf : bitsOf;
        if (!known.containsKey(chip.name.told)) {
            long sum = gates ? chip.gate() ? 1 : 0 : ownBits(chip);
            for (Part part : chip.parts) {
                sum += amount(chip(part.name.told), gates);
            }
            known.put(chip.name.told, sum);
        }
        return known.get(chip.name.told);
    }

    private int ownBits(Chip chip) {
        int sum = chip.pins.stream().mapToInt(Pin::width).sum();
        Set<String> inner = new LinkedHashSet<>();
        for (Part part : chip.parts) {
            for (Link link : part.links) {
                String name = link.right.name.told;
                if (!link.right.constant() && chip.pin(name) == null && inner.add(name)) {
                    sum += innerWidth(chip, name);
                }
            }
        }
        return sum;
    }

    private void place(String path, Chip chip, Part part) {
        chipAt.put(path, chip);
        partAt.put(path, part);
        if (chip.gate()) {
            (chip == NAND ? nands : dffs).add(path);
        }
        for (int i = 0; i < chip.parts.size(); i++) {
            place(path + "/" + i, chip(chip.parts.get(i).name.told), chip.parts.get(i));
        }
    }

    /** The source of a bit: "0", "1", an IN pin of the board with its bit, or a gate's path. */
    private String source(String path, String name, int bit) {
        Chip chip = chipAt.get(path);
        Pin pin = chip.pin(name);
        if (pin != null && pin.in) {
            return path.isEmpty() ? name + " " + bit : sourceOfIn(path, pin, bit);
        }
        if (chip.gate()) {
            return path;
        }
        int width = pin == null ? innerWidth(chip, name) : pin.width();
        for (int i = 0; i < chip.parts.size(); i++) {
            for (Link link : chip.parts.get(i).links) {
                Pin left = chip(chip.parts.get(i).name.told).pin(link.left.name.told);
                if (!left.in && link.right.name.told.equals(name) && link.right.has(bit, width)) {
                    return source(path + "/" + i, left.name.told, link.left.first() + bit - link.right.first());
                }
            }
        }
        return "0";
    }

    private String sourceOfIn(String path, Pin pin, int bit) {
        for (Link link : partAt.get(path).links) {
            if (link.left.name.told.equals(pin.name.told) && link.left.has(bit, pin.width())) {
                if (link.right.constant()) {
                    return link.right.name.told.equals("true") ? "1" : "0";
                }
                String outer = path.substring(0, path.lastIndexOf('/'));
                return source(outer, link.right.name.told, link.right.first() + bit - link.left.first());
            }
        }
        return "0";
    }

    /** How many Nands stand one behind the other up to this one; -1 if it is in a ring or behind one. */
    private int depth(String source) {
        if (chipAt.get(source) != NAND) {
            return 0;
        }
        if (!depth.containsKey(source)) {
            depth.put(source, -1);
            int first = depth(source(source, "a", 0));
            int second = depth(source(source, "b", 0));
            depth.put(source, first < 0 || second < 0 ? -1 : 1 + Math.max(first, second));
        }
        return depth.get(source);
    }

    private boolean bit(String source) {
        if (chipAt.get(source) == NAND) {
            if (!settled.containsKey(source)) {
                settled.put(source, !(bit(source(source, "a", 0)) && bit(source(source, "b", 0))));
            }
            return settled.get(source);
        }
        if (chipAt.get(source) == DFF) {
            return held.getOrDefault(source, false);
        }
        int blank = source.indexOf(' ');
        if (blank < 0) {
            return source.equals("1");
        }
        int value = driven.getOrDefault(source.substring(0, blank), 0);
        return (value >> Integer.parseInt(source.substring(blank + 1)) & 1) != 0;
    }

    boolean drive(int k, int v) {
        if (kind != 0 || k < 0 || k >= board().pins(true).size()) {
            return false;
        }
        driven.put(board().pins(true).get(k).name.told, v);
        settled.clear();
        return true;
    }

    int pin(int k) {
        if (kind != 0 || k < 0 || k >= board().pins(false).size()) {
            return -1;
        }
        Pin pin = board().pins(false).get(k);
        int number = 0;
        for (int i = 0; i < pin.width(); i++) {
            number += bit(source("", pin.name.told, i)) ? 1 << i : 0;
        }
        return number;
    }

    int tick() {
        if (kind != 0) {
            return -1;
        }
        Map<String, Boolean> next = new HashMap<>();
        dffs.forEach(dff -> next.put(dff, bit(source(dff, "in", 0))));
        int changed = (int) dffs.stream().filter(dff -> next.get(dff) != bit(dff)).count();
        held = next;
        settled.clear();
        ticks++;
        return changed;
    }

    int gates(int what) {
        if (kind != 0 || what < 0 || what > 7) {
            return -1;
        }
        int[] counts = {nands.size(), dffs.size(), board().pins(true).size(), board().pins(false).size(),
            parser.chips.size(), nands.stream().mapToInt(this::depth).max().orElse(0), ticks,
            (int) nands.stream().filter(this::bit).count()};
        return counts[what];
    }

    /** Reads by the grammar and stops at the first fault 1 or 2. */
    private static final class ModelParser {
        private static final Pattern BLANKS = Pattern.compile("([\\t\\n\\r ]++|//[^\\n]*|/\\*(?s:.*?)\\*/)*+");
        private static final Pattern TOKEN = Pattern.compile(
                "[A-Za-z][A-Za-z0-9_]{0,15}+(?![A-Za-z0-9_])|[0-9]{1,2}+(?![A-Za-z0-9_])|\\.\\.|[{}()\\[\\],;:=]");
        private static final List<String> KEYWORDS = List.of("CHIP", "IN", "OUT", "PARTS", "true", "false");

        final List<Chip> chips = new ArrayList<>();
        private final String text;
        /** The token at hand; empty at the end. */
        private Word token = new Word("", 0);
        private int behind = 0;
        private int tokens = 0;

        ModelParser(String text) {
            this.text = text;
        }

        void parse() {
            next();
            do {
                chip();
            } while (!token.told.isEmpty());
        }

        private void next() {
            Matcher blanks = BLANKS.matcher(text).region(behind, text.length());
            int start = blanks.lookingAt() ? blanks.end() : behind;
            Matcher found = TOKEN.matcher(text).region(start, text.length());
            if (start < text.length() && !found.lookingAt()) {
                throw new Found(1, start);
            }
            token = new Word(start < text.length() ? found.group() : "", start);
            behind = start + token.told.length();
            if (!token.told.isEmpty() && ++tokens > 1000) {
                throw new Found(2, start);
            }
        }

        private Word take(String wanted) {
            if (!token.told.equals(wanted)) {
                throw new Found(1, token.place);
            }
            return take();
        }

        private Word take() {
            Word taken = token;
            next();
            return taken;
        }

        private Word name(boolean room) {
            if (token.told.isEmpty() || !Character.isLetter(token.told.charAt(0)) || KEYWORDS.contains(token.told)) {
                throw new Found(1, token.place);
            }
            if (!room) {
                throw new Found(2, token.place);
            }
            return take();
        }

        private Word number() {
            if (token.told.isEmpty() || !Character.isDigit(token.told.charAt(0))) {
                throw new Found(1, token.place);
            }
            return take();
        }

        private boolean sees(String told) {
            return token.told.equals(told);
        }

        private void chip() {
            take("CHIP");
            Chip chip = new Chip(name(chips.size() < 8), new ArrayList<>(), new ArrayList<>());
            chips.add(chip);
            take("{");
            pins(chip, "IN");
            pins(chip, "OUT");
            take("PARTS");
            take(":");
            List<String> inner = new ArrayList<>();
            while (!sees("}")) {
                part(chip, inner);
            }
            take();
        }

        private void pins(Chip chip, String keyword) {
            take(keyword);
            pin(chip, keyword.equals("IN"));
            while (sees(",")) {
                take();
                pin(chip, keyword.equals("IN"));
            }
            take(";");
        }

        private void pin(Chip chip, boolean in) {
            Word name = name(chip.pins.size() < 8);
            Word width = new Word("1", -1);
            if (sees("[")) {
                take();
                width = number();
                take("]");
            }
            chip.pins.add(new Pin(name, in, Integer.parseInt(width.told), width.place));
        }

        private void part(Chip chip, List<String> inner) {
            Part part = new Part(name(chip.parts.size() < 12), new ArrayList<>());
            chip.parts.add(part);
            take("(");
            part.links.add(link(chip, inner));
            while (sees(",")) {
                take();
                part.links.add(link(chip, inner));
            }
            take(")");
            take(";");
        }

        private Link link(Chip chip, List<String> inner) {
            Side left = side(name(true));
            take("=");
            if (sees("true") || sees("false")) {
                return new Link(left, new Side(take(), -1, 0, 0));
            }
            boolean known = chip.pin(token.told) != null || inner.contains(token.told);
            Word name = name(known || inner.size() < 30);
            if (!known) {
                inner.add(name.told);
            }
            return new Link(left, side(name));
        }

        private Side side(Word name) {
            if (!sees("[")) {
                return new Side(name, -1, 0, 0);
            }
            int place = take().place;
            Word first = number();
            Word last = first;
            if (sees("..")) {
                take();
                last = number();
            }
            take("]");
            return new Side(name, place, Integer.parseInt(first.told), Integer.parseInt(last.told));
        }
    }
}
