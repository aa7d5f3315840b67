import java.util.ArrayList;

/**
 * Reads texts of chips that are put together of Nand and Dff gates, and runs
 * the last chip of a text as a board that is driven and asked.
 */
public final class ChipDesk {

    private final Text text;
    private final Fault fault;
    private final Parser parser;
    private final Checker checker;
    private final Board board;

    /** A desk without a text and without a board. */
    public ChipDesk() {
        text = new Text();
        fault = new Fault();
        parser = new Parser(text, fault);
        checker = new Checker(parser.chips, fault);
        board = new Board();
    }

    /** Puts the lowest n bytes of v behind the text, the highest of them first. */
    public boolean put(long v, int n) {
        return text.append(v, n);
    }

    /** Reads the text and empties it: 0, and its last chip is the board, or the number of the fault. */
    public int read() {
        fault.clear();
        board.clear();
        text.scan();
        if (parser.parse() && checker.check()) {
            buildBoard();
        }
        text.clear();
        return fault.kind;
    }

    private void buildBoard() {
        int count = parser.chips.size();
        if (count < 1 || !board.build(parser.chips.get(count - 1), count)) {
            fault.note(Fault.RING, text.length);
        }
    }

    /** The place of the last read's fault, or -1. */
    public int place() {
        return fault.place;
    }

    /** Sets the board's IN pin k to the lowest bits of v. */
    public boolean drive(int k, int v) {
        return board.setIn(k, v);
    }

    /** The number on the board's OUT pin k, or -1. */
    public int pin(int k) {
        return board.outNumber(k);
    }

    /** Ticks the board: how many Dffs changed, or -1. */
    public int tick() {
        return board.step();
    }

    /** One of eight counts of the board, or -1. */
    public int gates(int what) {
        return board.count(what);
    }

    /** The fault of the last read and where it is. */
    private static final class Fault {
        static final int NONE = 0;
        static final int SYNTAX = 1;
        static final int ROOM = 2;
        static final int TWICE = 3;
        static final int NAME = 4;
        static final int WIDTH = 5;
        static final int RING = 6;
        static final int NOWHERE = -1;

        int kind = NONE;
        int place = NOWHERE;

        void clear() {
            kind = NONE;
            place = NOWHERE;
        }

        /** Answers false, so that a check that fails can end with it. */
        boolean note(int newKind, int newPlace) {
            kind = newKind;
            place = newPlace;
            return false;
        }
    }

    /** A word of at most 16 bytes, held as two numbers so that it is compared without a loop. */
    private static final class Name {
        final long head;
        final long tail;
        final int place;

        Name(long head, long tail, int place) {
            this.head = head;
            this.tail = tail;
            this.place = place;
        }

        boolean same(Name other) {
            return head == other.head && tail == other.tail;
        }
    }

    /** The bytes that were put, and the tokens that the last scan found in them. */
    private static final class Text {
        static final int MOST_BYTES = 2000;
        static final int MOST_TOKENS = 1000;
        static final int MOST_WORD_BYTES = 16;
        static final int HEAD_BYTES = 8;

        // A sign's kind is its byte; these kinds are below all of them.
        static final int END = 0;
        static final int BAD = 1;
        static final int SURPLUS = 2;
        static final int NAME = 3;
        static final int NUMBER = 4;
        static final int DOTS = 5;
        static final int CHIP = 6;
        static final int IN = 7;
        static final int OUT = 8;
        static final int PARTS = 9;
        static final int TRUE = 10;
        static final int FALSE = 11;

        /** The bytes of CHIP, IN, OUT, PARTS, true, false, in the order of their kinds. */
        private static final long[] KEYWORDS = {
            0x43484950L, 0x494EL, 0x4F5554L, 0x5041525453L, 0x74727565L, 0x66616C7365L
        };

        final byte[] bytes = new byte[MOST_BYTES];
        int length = 0;

        // One place more than the tokens that are let in: for the end, or what is wrong.
        final int[] kind = new int[MOST_TOKENS + 1];
        final int[] place = new int[MOST_TOKENS + 1];
        final int[] number = new int[MOST_TOKENS + 1];
        final long[] head = new long[MOST_TOKENS + 1];
        final long[] tail = new long[MOST_TOKENS + 1];

        boolean append(long v, int n) {
            if (n < 1 || n > 8 || length + n > MOST_BYTES) {
                return false;
            }
            for (int i = n - 1; i >= 0; i--) {
                bytes[length] = (byte) (v >>> (8 * i));
                length++;
            }
            return true;
        }

        void clear() {
            length = 0;
        }

        /** Finds the tokens up to the end, or up to the first one that is bad or one too many. */
        void scan() {
            int at = 0;
            for (int t = 0; t <= MOST_TOKENS; t++) {
                at = skipBlanks(at);
                place[t] = at;
                at = scanToken(t, at);
                if (kind[t] == END || kind[t] == BAD) {
                    return;
                }
            }
            kind[MOST_TOKENS] = SURPLUS;
        }

        /** Stops at the / of a comment that does not end: as a token it is bad there. */
        private int skipBlanks(int from) {
            int at = from;
            for (int n = 0; n < length && at < length; n++) {
                int behind = behindBlank(at);
                if (behind == at) {
                    return at;
                }
                at = behind;
            }
            return at;
        }

        private int behindBlank(int at) {
            int c = bytes[at];
            if (c == 9 || c == 10 || c == 13 || c == 32) {
                return at + 1;
            }
            if (c != '/' || at + 1 >= length) {
                return at;
            }
            if (bytes[at + 1] == '/') {
                return lineEnd(at + 2);
            }
            return bytes[at + 1] == '*' ? behindComment(at) : at;
        }

        private int lineEnd(int from) {
            int at = from;
            while (at < length && bytes[at] != 10) {
                at++;
            }
            return at;
        }

        private int behindComment(int start) {
            for (int at = start + 2; at + 1 < length; at++) {
                if (bytes[at] == '*' && bytes[at + 1] == '/') {
                    return at + 2;
                }
            }
            return start;
        }

        /** Sets token t and answers the place behind it. */
        private int scanToken(int t, int at) {
            if (at >= length) {
                kind[t] = END;
                return at;
            }
            int end = at;
            while (end < length && isWordByte(bytes[end])) {
                end++;
            }
            if (end > at) {
                kind[t] = isDigit(bytes[at]) ? scanNumber(t, at, end) : scanWord(t, at, end);
                return end;
            }
            if (bytes[at] == '.' && at + 1 < length && bytes[at + 1] == '.') {
                kind[t] = DOTS;
                return at + 2;
            }
            kind[t] = isSign(bytes[at]) ? bytes[at] : BAD;
            return at + 1;
        }

        private int scanNumber(int t, int at, int end) {
            if (end - at > 2 || !isDigit(bytes[end - 1])) {
                return BAD;
            }
            int value = 0;
            for (int i = at; i < end; i++) {
                value = 10 * value + bytes[i] - '0';
            }
            number[t] = value;
            return NUMBER;
        }

        private int scanWord(int t, int at, int end) {
            if (end - at > MOST_WORD_BYTES || !isLetter(bytes[at])) {
                return BAD;
            }
            long first = 0;
            long rest = 0;
            for (int i = at; i < end; i++) {
                if (i - at < HEAD_BYTES) {
                    first = first << 8 | bytes[i];
                } else {
                    rest = rest << 8 | bytes[i];
                }
            }
            head[t] = first;
            tail[t] = rest;
            return wordKind(first, rest);
        }

        private static int wordKind(long first, long rest) {
            for (int i = 0; i < KEYWORDS.length; i++) {
                if (rest == 0 && first == KEYWORDS[i]) {
                    return CHIP + i;
                }
            }
            return NAME;
        }

        private static boolean isWordByte(int c) {
            return isLetter(c) || isDigit(c) || c == '_';
        }

        private static boolean isLetter(int c) {
            return c >= 'A' && c <= 'Z' || c >= 'a' && c <= 'z';
        }

        private static boolean isDigit(int c) {
            return c >= '0' && c <= '9';
        }

        private static boolean isSign(int c) {
            switch (c) {
                case '{':
                case '}':
                case '(':
                case ')':
                case '[':
                case ']':
                case ',':
                case ';':
                case ':':
                case '=':
                    return true;
                default:
                    return false;
            }
        }
    }

    /** A pin of a chip, or an inner name in it. */
    private static final class Wire {
        static final int IN = 0;
        static final int OUT = 1;
        static final int INNER = 2;
        static final int MOST_WIDTH = 16;
        static final int UNKNOWN_WIDTH = 0;

        final Name name;
        final int kind;
        int width = 1;
        /** Where a number of bits that is not 1 .. 16 stands, if there is one. */
        int badWidthPlace = Fault.NOWHERE;
        /** The first bit of this wire among the bits of its chip. */
        int offset = 0;
        /** The bits linked so far: of an IN pin by the part at hand, else by the parts of its chip. */
        int linkedBits = 0;
        /** Whether some part of the chip links this inner name from an OUT pin. */
        boolean given = false;

        Wire(Name name, int kind) {
            this.name = name;
            this.kind = kind;
        }

        void setWidth(int told, int toldPlace) {
            if (told < 1 || told > MOST_WIDTH) {
                badWidthPlace = toldPlace;
            } else {
                width = told;
            }
        }
    }

    /** One side of a link: a name with or without a range, or true or false. */
    private static final class Side {
        static final int NO_CONSTANT = -1;
        static final int NO_RANGE = -1;

        final Name name;
        int constant = NO_CONSTANT;
        int rangePlace = NO_RANGE;
        int low = 0;
        int high = 0;

        Side(Name name) {
            this.name = name;
        }

        boolean hasRange() {
            return rangePlace != NO_RANGE;
        }

        boolean fits(int pinWidth) {
            return !hasRange() || low <= high && high < pinWidth;
        }

        int width(int wireWidth) {
            return hasRange() ? high - low + 1 : wireWidth;
        }

        int bitMask(int wireWidth) {
            return ((1 << width(wireWidth)) - 1) << low;
        }
    }

    /** What one pin of a part is tied to. */
    private static final class Link {
        final Side left;
        final Side right;
        /** The part's pin on the left; null if there is none of that name. */
        Wire pin = null;
        /** What the right side names in the chip; null if it is true or false. */
        final Wire wire;

        Link(Side left, Side right, Wire wire) {
            this.left = left;
            this.right = right;
            this.wire = wire;
        }
    }

    /** A gate or a chip, used inside a chip. */
    private static final class Part {
        final Name name;
        final ArrayList<Link> links = new ArrayList<>();
        /** What the part is; null if there is no chip of that name. */
        Chip chip = null;

        Part(Name name) {
            this.name = name;
        }
    }

    /** A chip of the text, or one of the two gates. */
    private static final class Chip {
        static final int NO_GATE = 0;
        static final int NAND = 1;
        static final int DFF = 2;
        static final int MOST_PINS = 8;
        static final int MOST_INNER = 30;
        static final int MOST_PARTS = 12;

        final Name name;
        final int gate;
        /** The chip's number in the text. */
        final int index;
        /** The IN pins, then the OUT pins. */
        final ArrayList<Wire> pins = new ArrayList<>();
        final ArrayList<Wire> inner = new ArrayList<>();
        final ArrayList<Part> parts = new ArrayList<>();
        int inPins = 0;
        int inBits = 0;
        /** The bits of all pins and inner names. */
        int bits = 0;

        Chip(Name name, int gate, int index) {
            this.name = name;
            this.gate = gate;
            this.index = index;
        }

        static Chip nand() {
            Chip chip = new Chip(new Name(0x4E616E64L, 0L, Fault.NOWHERE), NAND, 0);
            chip.addPin(new Wire(new Name('a', 0L, Fault.NOWHERE), Wire.IN));
            chip.addPin(new Wire(new Name('b', 0L, Fault.NOWHERE), Wire.IN));
            chip.addPin(outOfGate());
            chip.setOffsets();
            return chip;
        }

        static Chip dff() {
            Chip chip = new Chip(new Name(0x446666L, 0L, Fault.NOWHERE), DFF, 0);
            chip.addPin(new Wire(new Name(0x696EL, 0L, Fault.NOWHERE), Wire.IN));
            chip.addPin(outOfGate());
            chip.setOffsets();
            return chip;
        }

        private static Wire outOfGate() {
            return new Wire(new Name(0x6F7574L, 0L, Fault.NOWHERE), Wire.OUT);
        }

        void addPin(Wire wire) {
            pins.add(wire);
            if (wire.kind == Wire.IN) {
                inPins++;
            }
        }

        static Wire find(ArrayList<Wire> wires, Name wanted) {
            for (int i = 0; i < wires.size(); i++) {
                if (wires.get(i).name.same(wanted)) {
                    return wires.get(i);
                }
            }
            return null;
        }

        /** Lets another part of this kind link all IN pins anew. */
        void freeInPins() {
            for (int i = 0; i < inPins && i < pins.size(); i++) {
                pins.get(i).linkedBits = 0;
            }
        }

        /** Gives all bits of the chip their numbers, those of the IN pins first. */
        void setOffsets() {
            bits = 0;
            inBits = 0;
            for (int i = 0; i < pins.size(); i++) {
                setOffset(pins.get(i));
            }
            for (int i = 0; i < inner.size(); i++) {
                setOffset(inner.get(i));
            }
        }

        private void setOffset(Wire wire) {
            wire.offset = bits;
            bits += wire.width;
            if (wire.kind == Wire.IN) {
                inBits = bits;
            }
        }
    }

    /** Makes chips of the tokens; finds the faults 1 and 2. */
    private static final class Parser {
        static final int MOST_CHIPS = 8;

        final ArrayList<Chip> chips = new ArrayList<>();
        private final Text text;
        private final Fault fault;
        /** The token at hand. It never leaves the rows, for what stands in their last place is not taken. */
        private int at = 0;

        Parser(Text text, Fault fault) {
            this.text = text;
            this.fault = fault;
        }

        boolean parse() {
            at = 0;
            chips.clear();
            for (int n = 0; n <= MOST_CHIPS; n++) {
                Chip chip = startChip();
                if (chip == null || !parsePins(chip, Text.IN, Wire.IN) || !parsePins(chip, Text.OUT, Wire.OUT)
                        || !want(Text.PARTS) || !want(':') || !parseParts(chip)) {
                    return false;
                }
                if (sees(Text.END)) {
                    return true;
                }
            }
            return false;
        }

        private Chip startChip() {
            if (!want(Text.CHIP) || !wantNameWithRoom(chips.size() < MOST_CHIPS)) {
                return null;
            }
            Chip chip = new Chip(takeName(), Chip.NO_GATE, chips.size());
            chips.add(chip);
            return want('{') ? chip : null;
        }

        private boolean parsePins(Chip chip, int keyword, int kind) {
            if (!want(keyword)) {
                return false;
            }
            for (int n = 0; n <= Chip.MOST_PINS; n++) {
                if (!parsePin(chip, kind)) {
                    return false;
                }
                if (!takes(',')) {
                    return want(';');
                }
            }
            return false;
        }

        private boolean parsePin(Chip chip, int kind) {
            if (!wantNameWithRoom(chip.pins.size() < Chip.MOST_PINS)) {
                return false;
            }
            Wire wire = new Wire(takeName(), kind);
            chip.addPin(wire);
            if (!takes('[')) {
                return true;
            }
            int told = at;
            if (!want(Text.NUMBER)) {
                return false;
            }
            wire.setWidth(text.number[told], text.place[told]);
            return want(']');
        }

        private boolean parseParts(Chip chip) {
            for (int n = 0; n <= Chip.MOST_PARTS; n++) {
                if (takes('}')) {
                    return true;
                }
                if (!wantNameWithRoom(chip.parts.size() < Chip.MOST_PARTS)) {
                    return false;
                }
                Part part = new Part(takeName());
                chip.parts.add(part);
                if (!want('(') || !parseLinks(chip, part)) {
                    return false;
                }
            }
            return false;
        }

        private boolean parseLinks(Chip chip, Part part) {
            for (int n = 0; n < Text.MOST_TOKENS; n++) {
                if (!parseLink(chip, part)) {
                    return false;
                }
                if (!takes(',')) {
                    return want(')') && want(';');
                }
            }
            return false;
        }

        private boolean parseLink(Chip chip, Part part) {
            if (!wantNameWithRoom(true)) {
                return false;
            }
            Side left = new Side(takeName());
            if (!parseRange(left) || !want('=')) {
                return false;
            }
            if (sees(Text.TRUE) || sees(Text.FALSE)) {
                int constant = sees(Text.TRUE) ? 1 : 0;
                Side right = new Side(takeName());
                right.constant = constant;
                part.links.add(new Link(left, right, null));
                return true;
            }
            if (!wantNameWithRoom(true)) {
                return false;
            }
            Side right = new Side(takeName());
            Wire wire = findOrAddInner(chip, right.name);
            if (wire == null) {
                return fault.note(Fault.ROOM, right.name.place);
            }
            part.links.add(new Link(left, right, wire));
            return parseRange(right);
        }

        /** Answers null if there is no room for another inner name. */
        private static Wire findOrAddInner(Chip chip, Name name) {
            Wire wire = Chip.find(chip.pins, name);
            if (wire == null) {
                wire = Chip.find(chip.inner, name);
            }
            if (wire == null && chip.inner.size() < Chip.MOST_INNER) {
                wire = new Wire(name, Wire.INNER);
                chip.inner.add(wire);
            }
            return wire;
        }

        private boolean parseRange(Side side) {
            int open = at;
            if (!takes('[')) {
                return true;
            }
            int first = at;
            if (!want(Text.NUMBER)) {
                return false;
            }
            int last = first;
            if (takes(Text.DOTS)) {
                last = at;
                if (!want(Text.NUMBER)) {
                    return false;
                }
            }
            side.rangePlace = text.place[open];
            side.low = text.number[first];
            side.high = text.number[last];
            return want(']');
        }

        private boolean sees(int kind) {
            return text.kind[at] == kind;
        }

        private boolean takes(int kind) {
            if (text.kind[at] != kind || at >= Text.MOST_TOKENS) {
                return false;
            }
            at++;
            return true;
        }

        private boolean want(int kind) {
            if (text.kind[at] == kind && at < Text.MOST_TOKENS) {
                at++;
                return true;
            }
            return fault.note(text.kind[at] == Text.SURPLUS ? Fault.ROOM : Fault.SYNTAX, text.place[at]);
        }

        /** Leaves the name to be taken, so that a fault of room is told at it and not behind. */
        private boolean wantNameWithRoom(boolean room) {
            if (text.kind[at] == Text.NAME && room) {
                return true;
            }
            boolean full = text.kind[at] == Text.NAME || text.kind[at] == Text.SURPLUS;
            return fault.note(full ? Fault.ROOM : Fault.SYNTAX, text.place[at]);
        }

        private Name takeName() {
            Name name = new Name(text.head[at], text.tail[at], text.place[at]);
            at = Math.min(at + 1, Text.MOST_TOKENS);
            return name;
        }
    }

    /**
     * Finds the faults 3 to 5 and the chips that are parts of themselves, and
     * ties parts to their chips. It goes from left to right and stops at the
     * first fault; in one link it asks in the order of the places.
     */
    private static final class Checker {
        private final ArrayList<Chip> chips;
        private final Fault fault;
        private final Chip nand = Chip.nand();
        private final Chip dff = Chip.dff();
        /** For each chip the chips that are in it, a bit each. */
        private final int[] inside = new int[Parser.MOST_CHIPS];

        Checker(ArrayList<Chip> chips, Fault fault) {
            this.chips = chips;
            this.fault = fault;
        }

        boolean check() {
            for (int i = 0; i < chips.size(); i++) {
                Chip chip = chips.get(i);
                // Another chip than this one is found under its name if that was told before.
                if (findChip(chip.name) != chip) {
                    return fault.note(Fault.TWICE, chip.name.place);
                }
                resolve(chip);
                if (!checkPins(chip) || !checkParts(chip)) {
                    return false;
                }
                chip.setOffsets();
            }
            return checkRings();
        }

        private Chip findChip(Name name) {
            if (name.same(nand.name)) {
                return nand;
            }
            if (name.same(dff.name)) {
                return dff;
            }
            for (int i = 0; i < chips.size(); i++) {
                if (chips.get(i).name.same(name)) {
                    return chips.get(i);
                }
            }
            return null;
        }

        /** Comes ahead of the checks because an inner name may be used ahead of its link. */
        private void resolve(Chip chip) {
            for (int p = 0; p < chip.parts.size(); p++) {
                Part part = chip.parts.get(p);
                part.chip = findChip(part.name);
                for (int i = 0; part.chip != null && i < part.links.size(); i++) {
                    Link link = part.links.get(i);
                    link.pin = Chip.find(part.chip.pins, link.left.name);
                    giveInner(link);
                }
            }
        }

        /** The first link from an OUT pin tells an inner name's width. */
        private static void giveInner(Link link) {
            Wire pin = link.pin;
            Wire wire = link.wire;
            if (pin == null || wire == null || pin.kind != Wire.OUT || wire.kind != Wire.INNER || wire.given) {
                return;
            }
            wire.given = true;
            wire.width = link.left.fits(pin.width) ? link.left.width(pin.width) : Wire.UNKNOWN_WIDTH;
        }

        private boolean checkPins(Chip chip) {
            for (int i = 0; i < chip.pins.size(); i++) {
                Wire wire = chip.pins.get(i);
                if (Chip.find(chip.pins, wire.name) != wire) {
                    return fault.note(Fault.TWICE, wire.name.place);
                }
                if (wire.badWidthPlace != Fault.NOWHERE) {
                    return fault.note(Fault.WIDTH, wire.badWidthPlace);
                }
            }
            return true;
        }

        private boolean checkParts(Chip chip) {
            for (int p = 0; p < chip.parts.size(); p++) {
                Part part = chip.parts.get(p);
                if (part.chip == null) {
                    return fault.note(Fault.NAME, part.name.place);
                }
                part.chip.freeInPins();
                for (int i = 0; i < part.links.size(); i++) {
                    if (!checkLink(part.links.get(i))) {
                        return false;
                    }
                }
            }
            return true;
        }

        private boolean checkLink(Link link) {
            Wire pin = link.pin;
            Side left = link.left;
            if (pin == null) {
                return fault.note(Fault.NAME, left.name.place);
            }
            if (!left.fits(pin.width)) {
                return fault.note(Fault.WIDTH, left.rangePlace);
            }
            if (pin.kind == Wire.OUT) {
                return checkTarget(link.wire, link.right, left.width(pin.width));
            }
            int bits = left.bitMask(pin.width);
            if ((pin.linkedBits & bits) != 0) {
                return fault.note(Fault.TWICE, left.name.place);
            }
            pin.linkedBits |= bits;
            return checkSource(link.wire, link.right, left.width(pin.width));
        }

        /** What an OUT pin of that many bits may lead to. */
        private boolean checkTarget(Wire wire, Side right, int width) {
            if (wire == null || wire.kind == Wire.IN) {
                return fault.note(Fault.NAME, right.name.place);
            }
            if (wire.kind == Wire.INNER && wire.linkedBits != 0) {
                return fault.note(Fault.TWICE, right.name.place);
            }
            if (!rangeIsRight(wire, right)) {
                return fault.note(Fault.WIDTH, right.rangePlace);
            }
            int bits = right.bitMask(wire.width);
            if ((wire.linkedBits & bits) != 0) {
                return fault.note(Fault.TWICE, right.name.place);
            }
            wire.linkedBits |= bits;
            return right.width(wire.width) == width || fault.note(Fault.WIDTH, right.name.place);
        }

        /** What an IN pin of that many bits may get its bits from. */
        private boolean checkSource(Wire wire, Side right, int width) {
            if (wire == null) {
                return true;
            }
            if (wire.kind == Wire.OUT || wire.kind == Wire.INNER && !wire.given) {
                return fault.note(Fault.NAME, right.name.place);
            }
            if (!rangeIsRight(wire, right)) {
                return fault.note(Fault.WIDTH, right.rangePlace);
            }
            if (wire.width == Wire.UNKNOWN_WIDTH || right.width(wire.width) == width) {
                return true;
            }
            return fault.note(Fault.WIDTH, right.name.place);
        }

        private static boolean rangeIsRight(Wire wire, Side side) {
            return wire.kind == Wire.INNER ? !side.hasRange() : side.fits(wire.width);
        }

        private boolean checkRings() {
            int count = Math.min(chips.size(), inside.length);
            for (int c = 0; c < count; c++) {
                inside[c] = directlyInside(chips.get(c));
            }
            for (int by = 0; by < count; by++) {
                for (int c = 0; c < count; c++) {
                    if ((inside[c] >> by & 1) != 0) {
                        inside[c] |= inside[by];
                    }
                }
            }
            for (int c = 0; c < count; c++) {
                if ((inside[c] >> c & 1) != 0) {
                    return fault.note(Fault.RING, chips.get(c).name.place);
                }
            }
            return true;
        }

        private static int directlyInside(Chip chip) {
            int mask = 0;
            for (int p = 0; p < chip.parts.size(); p++) {
                Chip used = chip.parts.get(p).chip;
                if (used != null && used.gate == Chip.NO_GATE) {
                    mask |= 1 << used.index;
                }
            }
            return mask;
        }
    }

    /**
     * A chip with all that is in it laid out as bits, each of which leads back
     * to a signal: 0, 1, a bit of the board's IN pins, or what a gate gives.
     */
    private static final class Board {
        static final int MOST_BITS = 8000;
        static final int MOST_GATES = 300;
        static final int ONE = 1;
        static final int FIRST_IN = 2;
        static final int MOST_SIGNALS = FIRST_IN + Chip.MOST_PINS * Wire.MOST_WIDTH + MOST_GATES;
        static final int UNSEEN = -1;
        static final int OPEN = -2;

        /** Null: there is no board. */
        private Chip chip = null;
        private int chipCount = 0;
        /** The bit that a bit gets its value from; or, turned by ~, the signal that it is. */
        private final int[] from = new int[MOST_BITS];
        private int bits = 0;
        private final boolean[] isDff = new boolean[MOST_GATES];
        /** The signals at a gate's pins; while it is laid out, the bits of these pins. */
        private final int[] firstIn = new int[MOST_GATES];
        private final int[] secondIn = new int[MOST_GATES];
        private int gateCount = 0;
        private int nandCount = 0;
        private int firstGate = FIRST_IN;
        private final boolean[] value = new boolean[MOST_SIGNALS];
        /** How many Nands stand one behind the other up to a signal; or UNSEEN, or OPEN. */
        private final int[] level = new int[MOST_SIGNALS];
        private int deepest = 0;
        /** The Nands, each behind those that it gets its bits from. */
        private final int[] order = new int[MOST_GATES];
        private int ordered = 0;
        private final int[] stack = new int[MOST_GATES];
        private final boolean[] next = new boolean[MOST_GATES];
        private int ticks = 0;
        private int ones = 0;

        void clear() {
            chip = null;
        }

        /** False if there are too many bits or gates, or a ring of Nands. */
        boolean build(Chip top, int count) {
            bits = 0;
            gateCount = 0;
            nandCount = 0;
            firstGate = FIRST_IN + top.inBits;
            if (claimBits(top) < 0) {
                return false;
            }
            startSignals(top.inBits);
            if (!layOut(top, 0, 1)) {
                return false;
            }
            findSignals();
            if (!arrangeAll()) {
                return false;
            }
            ticks = 0;
            settle();
            chip = top;
            chipCount = count;
            return true;
        }

        private void startSignals(int inBits) {
            value[ONE] = true;
            for (int i = 0; i < inBits; i++) {
                from[i] = ~(FIRST_IN + i);
                value[FIRST_IN + i] = false;
                level[FIRST_IN + i] = 0;
            }
        }

        /** Answers the first of the chip's new bits, all of them 0 as yet; or -1 without room. */
        private int claimBits(Chip claimer) {
            if (claimer.bits > MOST_BITS - bits) {
                return -1;
            }
            int start = bits;
            bits += claimer.bits;
            for (int i = start; i < bits; i++) {
                from[i] = ~0;
            }
            return start;
        }

        /** No chip is in itself, so no more than all chips stand one in the other. */
        private boolean layOut(Chip whole, int base, int depth) {
            if (depth > Parser.MOST_CHIPS) {
                return false;
            }
            for (int p = 0; p < whole.parts.size(); p++) {
                Part part = whole.parts.get(p);
                Chip used = part.chip;
                if (used == null) {
                    return false;
                }
                int start = claimBits(used);
                if (start < 0) {
                    return false;
                }
                for (int i = 0; i < part.links.size(); i++) {
                    join(part.links.get(i), base, start);
                }
                boolean laid = used.gate == Chip.NO_GATE ? layOut(used, start, depth + 1) : addGate(used, start);
                if (!laid) {
                    return false;
                }
            }
            return true;
        }

        private void join(Link link, int base, int start) {
            Wire pin = link.pin;
            Wire wire = link.wire;
            if (pin == null) {
                return;
            }
            int inner = start + pin.offset + link.left.low;
            int width = link.left.width(pin.width);
            int outer = wire == null ? 0 : base + wire.offset + link.right.low;
            for (int i = 0; i < width; i++) {
                if (wire == null) {
                    setFrom(inner + i, ~link.right.constant);
                } else if (pin.kind == Wire.IN) {
                    setFrom(inner + i, outer + i);
                } else {
                    setFrom(outer + i, inner + i);
                }
            }
        }

        private void setFrom(int bit, int source) {
            if (bit >= 0 && bit < bits) {
                from[bit] = source;
            }
        }

        private boolean addGate(Chip gate, int start) {
            if (gateCount >= MOST_GATES) {
                return false;
            }
            boolean dff = gate.gate == Chip.DFF;
            int signal = firstGate + gateCount;
            isDff[gateCount] = dff;
            firstIn[gateCount] = start;
            secondIn[gateCount] = start + gate.inBits - 1;
            setFrom(start + gate.inBits, ~signal);
            value[signal] = false;
            level[signal] = dff ? 0 : UNSEEN;
            nandCount += dff ? 0 : 1;
            gateCount++;
            return true;
        }

        private void findSignals() {
            for (int g = 0; g < gateCount; g++) {
                firstIn[g] = signalOf(firstIn[g]);
                secondIn[g] = signalOf(secondIn[g]);
            }
        }

        private int signalOf(int bit) {
            int at = bit;
            for (int n = 0; n < bits && from[at] >= 0; n++) {
                at = from[at];
            }
            return from[at] < 0 ? ~from[at] : 0;
        }

        private boolean arrangeAll() {
            ordered = 0;
            deepest = 0;
            for (int g = 0; g < gateCount; g++) {
                if (level[firstGate + g] == UNSEEN && !arrange(g)) {
                    return false;
                }
            }
            return true;
        }

        /**
         * Puts a Nand into the order, and first all Nands that it needs. The
         * stack holds a chain of open ones, each needing the next, so to need
         * an open one again is a ring. A Nand is looked at three times at most.
         */
        private boolean arrange(int gate) {
            stack[0] = gate;
            level[firstGate + gate] = OPEN;
            int height = 1;
            for (int n = 0; n < 3 * MOST_GATES && height > 0; n++) {
                int top = stack[height - 1];
                int first = level[firstIn[top]];
                int second = level[secondIn[top]];
                if (first == OPEN || second == OPEN) {
                    return false;
                }
                if (first == UNSEEN || second == UNSEEN) {
                    int needed = first == UNSEEN ? firstIn[top] : secondIn[top];
                    level[needed] = OPEN;
                    stack[height] = needed - firstGate;
                    height++;
                } else {
                    append(top, 1 + Math.max(first, second));
                    height--;
                }
            }
            return true;
        }

        private void append(int nand, int nandLevel) {
            order[ordered] = nand;
            ordered++;
            level[firstGate + nand] = nandLevel;
            deepest = Math.max(deepest, nandLevel);
        }

        private void settle() {
            ones = 0;
            for (int i = 0; i < ordered; i++) {
                int g = order[i];
                boolean given = !(value[firstIn[g]] && value[secondIn[g]]);
                value[firstGate + g] = given;
                ones += given ? 1 : 0;
            }
        }

        boolean setIn(int k, int v) {
            if (chip == null || k < 0 || k >= chip.inPins || k >= chip.pins.size()) {
                return false;
            }
            Wire wire = chip.pins.get(k);
            for (int i = 0; i < wire.width; i++) {
                value[FIRST_IN + wire.offset + i] = (v >> i & 1) != 0;
            }
            settle();
            return true;
        }

        int outNumber(int k) {
            if (chip == null || k < 0 || k >= chip.pins.size() - chip.inPins) {
                return -1;
            }
            Wire wire = chip.pins.get(chip.inPins + k);
            int number = 0;
            for (int i = 0; i < wire.width; i++) {
                number |= value[signalOf(wire.offset + i)] ? 1 << i : 0;
            }
            return number;
        }

        int step() {
            if (chip == null) {
                return -1;
            }
            // All bits are taken before one is given, for a Dff may stand behind another.
            for (int g = 0; g < gateCount; g++) {
                next[g] = value[firstIn[g]];
            }
            int changed = 0;
            for (int g = 0; g < gateCount; g++) {
                if (isDff[g] && value[firstGate + g] != next[g]) {
                    value[firstGate + g] = next[g];
                    changed++;
                }
            }
            ticks++;
            settle();
            return changed;
        }

        int count(int what) {
            if (chip == null) {
                return -1;
            }
            switch (what) {
                case 0:
                    return nandCount;
                case 1:
                    return gateCount - nandCount;
                case 2:
                    return chip.inPins;
                case 3:
                    return chip.pins.size() - chip.inPins;
                case 4:
                    return chipCount;
                case 5:
                    return deepest;
                case 6:
                    return ticks;
                case 7:
                    return ones;
                default:
                    return -1;
            }
        }
    }
}
