/** Promise 3, read: the sentences of 'Terms' about tokens, blanks and comments. */
public final class Promise3ReadTokensEdgesTest {
    private static final String PROMISE = "Promise 3, read, Terms, tokens";
    private static final String WORDS = "WORDS, a letter (A .. Z, a .. z), then letters, digits, _, at most 16 bytes";
    private static final String NUMBERS = "NUMBERS, 1 or 2 digits, with no letter, digit or _ behind";
    private static final String SIGNS = "SIGNS { } ( ) [ ] , ; : = and ..";
    private static final String BLANKS = "blanks 9, 10, 13, 32";
    private static final String LINES = "comments from // up to 10 or the end";
    private static final String BLOCKS = "and from / with * right behind it to the next * behind that with / right behind it";
    private static final String UNENDED = "one that does not end is fault 1 at its /";
    private static final String KEYWORDS = "KEYWORDS: CHIP IN OUT PARTS true false; other words are NAMES";

    private static final String CHIP = Texts.EMPTY;
    private static final String SIXTEEN = "abcdefghABCDEF_9";

    public static void main(String[] args) {
        firstByteOfAWord();
        otherBytesOfAWord();
        wordOf16Bytes();
        wordOf17Bytes();
        everyByteOfAWordCounts();
        lengthOfAWordCounts();
        numberOf1Or2Digits();
        numberOf3Digits();
        whatStandsBehindOneDigit();
        whatStandsBehindTwoDigits();
        dots();
        bytesThatAreNoToken();
        blanks();
        lineCommentEndsAt10();
        lineCommentEndsAtTheEnd();
        blockCommentEnds();
        blockCommentDoesNotEnd();
        slashAlone();
        keywordsAreNoNames();
        wordsNextToKeywordsAreNames();
        Check.end();
    }

    private static boolean isLetter(char c) {
        return c >= 'A' && c <= 'Z' || c >= 'a' && c <= 'z';
    }

    private static boolean isDigit(char c) {
        return c >= '0' && c <= '9';
    }

    private static boolean isBlank(char c) {
        return c == 9 || c == 10 || c == 13 || c == 32;
    }

    private static boolean isWordByte(char c) {
        return isLetter(c) || isDigit(c) || c == '_';
    }

    private static void firstByteOfAWord() {
        Check.sentence(PROMISE, WORDS);
        for (char c = 0; c < 256; c++) {
            String text = "CHIP " + c + "{IN a;OUT o;PARTS:}";
            if (isLetter(c)) {
                Check.board(text);
            } else {
                Check.faultAt(1, isBlank(c) ? 6 : 5, text);
            }
        }
    }

    /** Two bytes make one word, which a part then names; any other byte parts them or is a fault. */
    private static void otherBytesOfAWord() {
        Check.sentence(PROMISE, WORDS);
        for (char c = 0; c < 256; c++) {
            String text = "CHIP A" + c + "{IN a;OUT o;PARTS:}";
            if (isWordByte(c)) {
                Check.board(text + Texts.chip("B", "A" + c + "(a=a);"));
                Check.faultAt(4, text.length() + 24, text + Texts.chip("B", "A(a=a);"));
            } else if (isBlank(c)) {
                Check.board(text + Texts.chip("B", "A(a=a);"));
            } else {
                Check.faultAt(1, c == '{' ? 7 : 6, text);
            }
        }
    }

    private static String wordAtEachPlace(String chip, String pin, String part, String left, String right) {
        return "CHIP P{IN " + SIXTEEN + ";OUT u;PARTS:}CHIP " + SIXTEEN + "{IN i;OUT u;PARTS:}"
                + "CHIP " + chip + "{IN " + pin + ";OUT o;PARTS:" + part + "(i=true);P(" + left + "=q);"
                + "Nand(out=q,out=" + right + ");}";
    }

    private static void wordOf16Bytes() {
        Check.sentence(PROMISE, WORDS);
        Check.board(wordAtEachPlace("Abcdefgh01234567", "abcdefgh01234567", SIXTEEN, SIXTEEN, "z234567890123456"));
    }

    private static void wordOf17Bytes() {
        Check.sentence(PROMISE, WORDS);
        String seventeen = SIXTEEN + "0";
        Check.fault(1, wordAtEachPlace("^" + seventeen, "a", SIXTEEN, SIXTEEN, "x"));
        Check.fault(1, wordAtEachPlace("C", "^" + seventeen, SIXTEEN, SIXTEEN, "x"));
        Check.fault(1, wordAtEachPlace("C", "a", "^" + seventeen, SIXTEEN, "x"));
        Check.fault(1, wordAtEachPlace("C", "a", SIXTEEN, "^" + seventeen, "x"));
        Check.fault(1, wordAtEachPlace("C", "a", SIXTEEN, SIXTEEN, "^" + seventeen));
        Check.fault(1, "CHIP ^" + "a".repeat(1990));
    }

    /** Two words that are alike but for one byte are two names. */
    private static void everyByteOfAWordCounts() {
        Check.sentence(PROMISE, WORDS);
        for (int i = 0; i < 16; i++) {
            for (char c = 0; c < 128; c++) {
                if (isWordByte(c) && (i > 0 || isLetter(c))) {
                    String other = SIXTEEN.substring(0, i) + c + SIXTEEN.substring(i + 1);
                    if (other.equals(SIXTEEN)) {
                        Check.fault(3, "CHIP A{IN " + SIXTEEN + ";OUT ^" + other + ";PARTS:}");
                    } else {
                        Check.board("CHIP A{IN " + SIXTEEN + ";OUT " + other + ";PARTS:}");
                    }
                }
            }
        }
    }

    private static void lengthOfAWordCounts() {
        Check.sentence(PROMISE, WORDS);
        for (int length = 1; length <= 16; length++) {
            String word = SIXTEEN.substring(0, length);
            Check.fault(3, "CHIP A{IN " + word + ";OUT ^" + word + ";PARTS:}");
            Check.board("CHIP A{IN " + word + ";OUT " + word.substring(0, length - 1) + "z;PARTS:}");
            for (int shorter = 1; shorter < length; shorter++) {
                Check.board("CHIP A{IN " + word + ";OUT " + word.substring(0, shorter) + ";PARTS:}");
            }
        }
    }

    private static void numberOf1Or2Digits() {
        Check.sentence(PROMISE, NUMBERS);
        for (int i = 0; i <= 99; i++) {
            String[] forms = {i < 10 ? "" + i : "", i < 10 ? "0" + i : "" + i};
            for (String number : forms) {
                if (number.isEmpty()) {
                    continue;
                }
                if (i >= 1 && i <= 16) {
                    ChipDesk desk = Check.board("CHIP A{IN a[" + number + "];OUT o;PARTS:Nand(a=a[" + (i - 1) + "]);}");
                    Check.due("gates(2)", desk.gates(2), 1);
                } else {
                    Check.fault(5, "CHIP A{IN a[^" + number + "];OUT o;PARTS:}");
                }
            }
        }
    }

    private static void numberOf3Digits() {
        Check.sentence(PROMISE, NUMBERS);
        String[] numbers = {"000", "001", "016", "100", "999", "0000000001", "4294967297"};
        for (String number : numbers) {
            Check.fault(1, "CHIP A{IN a[^" + number + "];OUT o;PARTS:}");
            Check.fault(1, "CHIP A{IN a;OUT o;PARTS:Nand(a[^" + number + "]=a);}");
            Check.fault(1, "CHIP A{IN a;OUT o;PARTS:Nand(a[0..^" + number + "]=a);}");
            Check.fault(1, "CHIP A{IN a;OUT o;PARTS:Nand(a=a[^" + number + "]);}");
        }
    }

    private static void whatStandsBehindOneDigit() {
        Check.sentence(PROMISE, NUMBERS);
        for (char c = 0; c < 256; c++) {
            String text = "CHIP A{IN a[1" + c + "];OUT o;PARTS:}";
            if (isBlank(c) || c >= '0' && c <= '6') {
                Check.board(text);
            } else if (isDigit(c)) {
                Check.faultAt(5, 12, text);
            } else if (isWordByte(c)) {
                Check.faultAt(1, 12, text);
            } else {
                Check.faultAt(1, c == ']' ? 14 : 13, text);
            }
        }
    }

    private static void whatStandsBehindTwoDigits() {
        Check.sentence(PROMISE, NUMBERS);
        for (char c = 0; c < 256; c++) {
            String text = "CHIP A{IN a[16" + c + "];OUT o;PARTS:}";
            if (isBlank(c)) {
                Check.board(text);
            } else if (isWordByte(c)) {
                Check.faultAt(1, 12, text);
            } else {
                Check.faultAt(1, c == ']' ? 15 : 14, text);
            }
        }
    }

    private static void dots() {
        Check.sentence(PROMISE, SIGNS);
        String head = "CHIP A{IN a;OUT o;PARTS:Nand(a[0";
        Check.board(head + "..0]=a);}");
        Check.board(head + " .. 0]=a);}");
        Check.fault(1, head + "^.0]=a);}");
        Check.fault(1, head + "^. .0]=a);}");
        Check.fault(1, head + "..^.0]=a);}");
        Check.fault(1, head + "..^..0]=a);}");
        Check.fault(1, head + "^.");
        Check.fault(1, head + "..^");
    }

    /** Signs are tokens, but none may stand at the head of a text. */
    private static void bytesThatAreNoToken() {
        Check.sentence(PROMISE, SIGNS);
        for (char c = 0; c < 256; c++) {
            if (!isBlank(c)) {
                Check.faultAt(1, 0, c + CHIP);
                Check.faultAt(1, CHIP.length(), CHIP + c);
            }
        }
    }

    private static void blanks() {
        Check.sentence(PROMISE, BLANKS);
        char[] blanks = {9, 10, 13, 32};
        for (char c : blanks) {
            Check.board(c + CHIP);
            Check.board(CHIP + c);
            Check.board("CHIP" + c + "A" + c + "{" + c + c + "IN" + c + "a" + c + ";OUT" + c + "o;PARTS" + c + ":" + c + "}");
        }
        char[] others = {0, 8, 11, 12, 14, 31, 33, 127, 128, 133, 160, 255};
        for (char c : others) {
            Check.faultAt(1, 4, "CHIP" + c + "A{IN a;OUT o;PARTS:}");
        }
        Check.fault(1, " \t\r\n^");
    }

    private static void lineCommentEndsAt10() {
        Check.sentence(PROMISE, LINES);
        for (char c = 0; c < 256; c++) {
            String text = "//" + c + CHIP;
            if (c == 10) {
                Check.board(text);
            } else {
                Check.faultAt(1, text.length(), text);
            }
        }
        Check.board("// }{ /* // \n" + CHIP);
        Check.board("///\n//*\n" + CHIP);
        Check.board("CHIP//\nA{IN a;OUT o;PARTS:}");
        Check.fault(1, "//\n^$");
    }

    private static void lineCommentEndsAtTheEnd() {
        Check.sentence(PROMISE, LINES);
        Check.board(CHIP + "//");
        Check.board(CHIP + "// $");
        Check.board(CHIP + "// /*");
        Check.board(CHIP + "//\n");
        Check.fault(1, "//^");
        Check.board(CHIP + "//" + "$".repeat(1998 - CHIP.length()));
    }

    private static void blockCommentEnds() {
        Check.sentence(PROMISE, BLOCKS);
        String[] comments = {"/**/", "/***/", "/****/", "/* */", "/*/*/", "/*//*/", "/* * / */", "/* /* */", "/* // */",
            "/*\n\n*/", "/*$*/", "/**//**/", "/*\0*/"};
        for (String comment : comments) {
            Check.board(comment + CHIP);
            Check.board("CHIP" + comment + "A{IN a;OUT o;PARTS:}");
            Check.board(CHIP + comment);
        }
        Check.fault(1, "^CH/**/IP A{IN a;OUT o;PARTS:}");
        Check.fault(1, "/* /* */ ^*/" + CHIP);
        Check.fault(1, "/**/^/" + CHIP);
        Check.fault(1, "/* */^$ */" + CHIP);
        Check.board("/*" + "$".repeat(1996 - CHIP.length()) + "*/" + CHIP);
    }

    private static void blockCommentDoesNotEnd() {
        Check.sentence(PROMISE, UNENDED);
        String[] comments = {"/*", "/*/", "/**", "/* *", "/* * /", "/*//", "/*\n", "/***"};
        for (String comment : comments) {
            Check.fault(1, "^" + comment);
            Check.fault(1, CHIP + "^" + comment);
            Check.fault(1, CHIP + " /**/ ^" + comment);
            Check.fault(1, "CHIP A{IN a^" + comment);
        }
        Check.fault(1, "^/*/" + CHIP);
        Check.fault(1, CHIP + "^/*" + "*".repeat(1998 - CHIP.length()));
    }

    private static void slashAlone() {
        Check.sentence(PROMISE, BLOCKS);
        Check.fault(1, "^/");
        Check.fault(1, CHIP + "^/");
        Check.fault(1, CHIP + "^/ /");
        Check.fault(1, CHIP + "^/ * */");
        Check.fault(1, CHIP + "^*/");
    }

    private static void keywordsAreNoNames() {
        Check.sentence(PROMISE, KEYWORDS);
        String[] keywords = {"CHIP", "IN", "OUT", "PARTS", "true", "false"};
        for (String word : keywords) {
            Check.fault(1, "CHIP ^" + word + "{IN a;OUT o;PARTS:}");
            Check.fault(1, "CHIP A{IN ^" + word + ";OUT o;PARTS:}");
            Check.fault(1, "CHIP A{IN a;OUT ^" + word + ";PARTS:}");
            Check.fault(1, "CHIP A{IN a;OUT o;PARTS:^" + word + "(a=a);}");
            Check.fault(1, "CHIP A{IN a;OUT o;PARTS:Nand(^" + word + "=a);}");
            if (Character.isUpperCase(word.charAt(0))) {
                Check.fault(1, "CHIP A{IN a;OUT o;PARTS:Nand(a=^" + word + ");}");
            } else {
                Check.board("CHIP A{IN a;OUT o;PARTS:Nand(a=" + word + ");}");
            }
        }
    }

    private static void wordsNextToKeywordsAreNames() {
        Check.sentence(PROMISE, KEYWORDS);
        String[] words = {"CHI", "CHIPS", "CHIp", "Chip", "chip", "I", "INN", "In", "in", "OU", "OUTS", "Out", "out", "PART",
            "PARTSS", "Parts", "parts", "tru", "truee", "True", "TRUE", "fals", "falsee", "False", "FALSE", "IN_", "IN0"};
        for (String word : words) {
            Check.board("CHIP " + word + "{IN " + word + ";OUT o;PARTS:Nand(a=" + word + ");}");
            Check.fault(4, "CHIP A{IN a;OUT o;PARTS:Nand(a=^" + word + ");}");
            Check.fault(1, "^" + word + " A{IN a;OUT o;PARTS:}");
        }
    }
}
