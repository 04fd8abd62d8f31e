/** Promises 20 to 22 and the sentences under 'Texts' at their edges, a test for each sentence. */
public final class TextsEdgesTest {
    private static final int BAD_VALUE = -2, BAD_TEXT = -3, TOO_MANY = -4, NONE = -6;

    private TextsEdgesTest() {
    }

    public static void main(String[] args) {
        lengthsOfPut();
        orderOfPut();
        everyCodeAtEveryPlace();
        everyStrayBit();
        endsOfLong();
        padOfSixty();
        badAheadOfTooMany();
        putIsNoChange();
        wipeReturnsTheLength();
        everySignAfterEveryBegin();
        everyNumber();
        everySetOfLetters();
        textsThatEndTooEarly();
        firstFaultOfSeveral();
        faultsOfAFullPad();
        faultChangesNothing();
        whatThePadMeans();
        Due.end();
    }

    // ---- promise 20

    private static void lengthsOfPut() {
        Due.sentence("20: 1 to 8 characters. Returns the length of the pad then");
        for (int many = 1; many <= 8; many++) {
            ExamHalls x = new ExamHalls();
            int length = 0;
            while (length + many <= 60) {
                length += many;
                Due.is(many + " characters", x.put(Schools.word("abcdefgh".substring(0, many))), length);
            }
            Due.is("length", x.count(11), length);
        }
        Due.is("no character", new ExamHalls().put(0), BAD_VALUE);
    }

    private static void orderOfPut() {
        Due.sentence("20: its lowest 8 bits are the last character, the next 8 bits the one before, and so on");
        ExamHalls x = new ExamHalls();
        Due.is("8 characters", x.put(0x6162632B32357265L), 8);
        Due.is("abc+25re: the last one is the fault", x.fault(), 7);
        x.wipe();
        Due.is("7 characters", x.put(0x6162632B323572L), 7);
        Due.is("abc+25r", x.fault(), NONE);
        Due.is("one more call goes behind them", x.put(0x3B66), 9);
        Due.is("read", x.read(), 2);
        Due.is("papers", x.pupilOf(0, 0), 7);
        Due.is("extra", x.pupilOf(0, 1), 25);
        Due.is("reader", x.pupilOf(0, 2), 1);
        Due.is("papers", x.pupilOf(1, 0), 32);
        x.put('a');
        x.put('+');
        x.put('1');
        x.put('0');
        x.put('0');
        Due.is("one by one", x.fault(), NONE);
        Due.is("read", x.read(), 3);
        Due.is("extra", x.pupilOf(2, 1), 100);
    }

    /** So many times the letter a, with a code put in at a place (0 is the last one). */
    private static long withCode(int many, int place, int code) {
        long characters = 0;
        for (int i = many - 1; i >= 0; i--) {
            characters = characters << 8 | (i == place ? code : 'a');
        }
        return characters;
    }

    private static void everyCodeAtEveryPlace() {
        Due.sentence("20: BAD_VALUE if a code is not 33 to 126; 8 bits that are 0 mean that there are no more"
                + " characters");
        for (int many = 1; many <= 8; many++) {
            for (int place = 0; place < many; place++) {
                ExamHalls x = null;
                for (int code = 0; code <= 255; code++) {
                    x = code % 128 == 0 ? new ExamHalls() : x;
                    boolean isTaken = code >= 33 && code <= 126;
                    // A 0 ahead of all others ends the text a character sooner.
                    int due = isTaken ? many : code == 0 && place == many - 1 && many > 1 ? many - 1 : BAD_VALUE;
                    Due.is("code " + code + " at " + place + " of " + many, x.put(withCode(many, place, code)), due);
                    Due.is("pad", x.wipe(), Math.max(0, due));
                }
            }
        }
    }

    private static void everyStrayBit() {
        Due.sentence("20: everything above them has to be 0, too; BAD_VALUE if a bit above 8 bits that are 0 is not"
                + " 0");
        for (int many = 0; many <= 7; many++) {
            ExamHalls x = new ExamHalls();
            long characters = Schools.word("abcdefg".substring(0, many));
            for (int bit = 8 * many; bit <= 63; bit++) {
                // Right above the characters the bit is a character more: 64 is one, the others are none.
                boolean isTaken = bit == 8 * many + 6;
                int due = isTaken ? many + 1 : BAD_VALUE;
                Due.is(many + " characters and bit " + bit, x.put(characters | 1L << bit), due);
                Due.is("pad", x.wipe(), Math.max(0, due));
            }
            if (many <= 6) {
                Due.is("a character above 8 bits", x.put(characters | (long) 'a' << 8 * (many + 1)), BAD_VALUE);
                Due.is("all bits above 8 bits", x.put(characters | -1L << 8 * (many + 1)), BAD_VALUE);
            }
            Due.is("pad", x.count(11), 0);
        }
    }

    private static void endsOfLong() {
        Due.sentence("20: characters are given as a number (of long, to its ends)");
        ExamHalls x = new ExamHalls();
        long[] bad = {Long.MIN_VALUE, Long.MAX_VALUE, -1, 0, 1, Integer.MIN_VALUE, Integer.MAX_VALUE, 1L << 32,
            1L << 31, 0x7E7E7E7E7E7E7E7FL, 0x7F7E7E7E7E7E7E7EL, 0x2121212121212120L, 0x2021212121212121L,
            Long.MIN_VALUE + 'a',
            0x6161616100000000L, 0x6100000000000061L, 0x6161616161616100L, 0x0061616161610061L, 0xE161616161616161L};
        for (long characters : bad) {
            Due.is("put(" + characters + ")", x.put(characters), BAD_VALUE);
            Due.is("pad", x.count(11), 0);
        }
        Due.is("8 times 33, the least of 8", x.put(0x2121212121212121L), 8);
        Due.is("8 times 126, the greatest of all", x.put(0x7E7E7E7E7E7E7E7EL), 16);
        Due.is("33, the least of all", x.put(33), 17);
        Due.is("126, the greatest of one", x.put(126), 18);
    }

    private static void padOfSixty() {
        Due.sentence("20: TOO_MANY if the pad would be longer than 60");
        for (int length = 51; length <= 60; length++) {
            for (int many = 1; many <= 8; many++) {
                ExamHalls x = new ExamHalls();
                for (int i = 0; i < length; i++) {
                    x.put('a');
                }
                boolean isTaken = length + many <= 60;
                Due.is(many + " to " + length, x.put(withCode(many, 0, 'b')), isTaken ? length + many : TOO_MANY);
                Due.is("pad", x.count(11), isTaken ? length + many : length);
            }
        }
        ExamHalls x = new ExamHalls();
        for (int i = 0; i < 60; i++) {
            x.put('a');
        }
        Due.is("one to 60", x.put('a'), TOO_MANY);
        Due.is("wipe", x.wipe(), 60);
        Due.is("one to none", x.put('a'), 1);
    }

    private static void badAheadOfTooMany() {
        Due.sentence("20: BAD_VALUE ..; TOO_MANY .. (in this order)");
        ExamHalls x = new ExamHalls();
        for (int i = 0; i < 60; i++) {
            x.put('a');
        }
        for (int code = 0; code <= 255; code++) {
            boolean isCode = code >= 33 && code <= 126;
            Due.is("code " + code + " to 60", x.put(code), isCode ? TOO_MANY : BAD_VALUE);
        }
        Due.is("a 0 between", x.put(0x610061), BAD_VALUE);
        Due.is("pad", x.count(11), 60);
    }

    private static void putIsNoChange() {
        Due.sentence("20 to 22: texts (these are no changes)");
        ExamHalls x = Schools.withPupils("a");
        Due.is("history", x.count(12), 1);
        x.put('b');
        x.fault();
        x.wipe();
        x.put('c');
        Due.is("history", x.count(12), 1);
        Due.is("undo of the read", x.undo(), 0);
        Due.is("the pad stays", x.count(11), 1);
        Due.is("read", x.read(), 1);
        Due.is("c", x.pupilOf(0, 0), 4);
    }

    // ---- promise 21

    private static void wipeReturnsTheLength() {
        Due.sentence("21: Empties the pad, and returns the length that it had");
        ExamHalls x = new ExamHalls();
        Due.is("an empty pad", x.wipe(), 0);
        for (int length = 1; length <= 60; length += 59) {
            for (int i = 0; i < length; i++) {
                x.put('b');
            }
            Due.is("wipe", x.wipe(), length);
            Due.is("pad", x.count(11), 0);
            Due.is("fault", x.fault(), 0);
            Due.is("wipe again", x.wipe(), 0);
        }
        Schools.type(x, "f+3");
        Due.is("nothing of it is left", x.fault(), NONE);
        Due.is("read", x.read(), 1);
        Due.is("f", x.pupilOf(0, 0), 32);
        Due.is("wipe after read", x.wipe(), 0);
    }

    // ---- promise 22, and the texts

    /** A begin without a fault, and the characters that can stand behind it. */
    private static final String[][] BEGINS = {
        {"", "abcdef"}, {"a", "bcdef+r;"}, {"b", "cdef+r;"}, {"c", "def+r;"}, {"d", "ef+r;"}, {"e", "f+r;"},
        {"f", "+r;"}, {"ab", "cdef+r;"}, {"ac", "def+r;"}, {"af", "+r;"}, {"abcdef", "+r;"}, {"bd", "ef+r;"},
        {"a+", "123456789"}, {"f+", "123456789"}, {"abcdef+", "123456789"}, {"a+1", "0123456789r;"},
        {"a+2", "0123456789r;"}, {"a+9", "0123456789r;"}, {"a+10", "0r;"}, {"a+11", "r;"}, {"a+19", "r;"},
        {"a+20", "r;"}, {"a+50", "r;"}, {"a+99", "r;"}, {"a+100", "r;"}, {"ar", ";"}, {"fr", ";"}, {"a+1r", ";"},
        {"a+100r", ";"}, {"a;", "abcdef"}, {"f;", "abcdef"}, {"ar;", "abcdef"}, {"a+1;", "abcdef"},
        {"a+100r;", "abcdef"}, {"f;a", "bcdef+r;"}, {"f+99;a+", "123456789"}, {"a+100;b+1", "0123456789r;"},
        {"a+10;b+10", "0r;"}, {"ar;b", "cdef+r;"}, {"ar;br", ";"}, {"a;b;c;d;e;f;a;b;c;d;e;f;a;b;c;d;e;f;", "abcdef"},
        {"abcdef+100r;abcdef+100r;abcdef+100r;abcdef+100r;abcdef+100", "r;"},
        {"abcdef+100r;abcdef+100r;abcdef+100r;abcdef+100r;abcdef+100r", ";"}};

    private static void everySignAfterEveryBegin() {
        Due.sentence("22: the index of the first character that cannot stand at its place");
        for (String[] row : BEGINS) {
            String begin = row[0];
            ExamHalls x = new ExamHalls();
            Due.is("fault of " + begin, faultAfter(x, begin), canEnd(begin) ? NONE : begin.length());
            int calls = 0;
            for (char sign = 33; sign <= 126; sign++) {
                if (calls % 20 == 0) {
                    x = new ExamHalls();
                }
                calls++;
                boolean canStand = row[1].indexOf(sign) >= 0;
                int due = !canStand ? begin.length() : canEnd(begin + sign) ? NONE : begin.length() + 1;
                Due.is("fault of " + begin + sign, faultAfter(x, begin + sign), due);
            }
        }
    }

    /** A text without a fault up to its end can end behind anything but a semicolon and a plus. */
    private static boolean canEnd(String text) {
        return !text.isEmpty() && !text.endsWith(";") && !text.endsWith("+");
    }

    private static int faultAfter(ExamHalls x, String text) {
        x.wipe();
        Schools.type(x, text);
        return x.fault();
    }

    private static void everyNumber() {
        Due.sentence("the number is the extra time, 1 to 100 without leading zeros (also a digit too great is the"
                + " fault)");
        for (int number = 0; number <= 1009; number++) {
            ExamHalls x = new ExamHalls();
            String text = "a+" + number;
            int due = number == 0 ? 2 : number <= 100 ? NONE : number <= 999 ? 4 : 5;
            Due.is("fault of " + text, faultAfter(x, text), due);
            Due.is("read of " + text, x.read(), due == NONE ? 1 : BAD_TEXT);
            if (due == NONE) {
                Due.is("extra of " + text, x.pupilOf(0, 1), number);
            }
        }
        ExamHalls x = new ExamHalls();
        String[] zeros = {"a+00", "a+01", "a+010", "a+0100", "a+0r", "a+0;b"};
        for (String text : zeros) {
            Due.is("fault of " + text, faultAfter(x, text), 2);
        }
        Due.is("many digits", faultAfter(x, "a+99999999999999999999"), 4);
        Due.is("as 2 ^ 32 and 1", faultAfter(x, "a+4294967297"), 4);
        Due.is("as 2 ^ 32 and 100", faultAfter(x, "a+1004294967396"), 5);
        Due.is("no extra time without a number", Schools.withPupils("a").pupilOf(0, 1), 0);
    }

    private static void everySetOfLetters() {
        Due.sentence("pupil = letter { letter }: letters are papers, a to f, each greater than the one before");
        for (int set = 1; set <= 63; set++) {
            StringBuilder text = new StringBuilder();
            for (int paper = 0; paper < 6; paper++) {
                if ((set >> paper & 1) == 1) {
                    text.append((char) ('a' + paper));
                }
            }
            ExamHalls x = new ExamHalls();
            Due.is("fault of " + text, faultAfter(x, text.toString()), NONE);
            Due.is("read of " + text, x.read(), 1);
            Due.is("papers of " + text, x.pupilOf(0, 0), set);
        }
        for (char first = 'a'; first <= 'g'; first++) {
            for (char next = 'a'; next <= 'g'; next++) {
                int due = first == 'g' ? 0 : next <= first || next == 'g' ? 1 : NONE;
                Due.is("fault of " + first + next, faultAfter(new ExamHalls(), "" + first + next), due);
            }
        }
        Due.is("not greater than the one right before", faultAfter(new ExamHalls(), "adbf"), 2);
        Due.is("as great", faultAfter(new ExamHalls(), "abbc"), 2);
        Due.is("letters begin anew", faultAfter(new ExamHalls(), "f;f;e;a"), NONE);
    }

    private static void textsThatEndTooEarly() {
        Due.sentence("if there is none and the text ends too early (also if it is empty), it is the length of the"
                + " text");
        ExamHalls x = new ExamHalls();
        Due.is("an empty pad", x.fault(), 0);
        String[] early = {"a;", "a+", "ab+", "a+5;", "a+5r;", "ar;", "a;b;", "a;b+", "abcdef+100r;"};
        for (String text : early) {
            Due.is("fault of " + text, faultAfter(x, text), text.length());
            Due.is("read of " + text, x.read(), BAD_TEXT);
        }
        x.wipe();
        Due.is("wiped", x.fault(), 0);
    }

    private static void firstFaultOfSeveral() {
        Due.sentence("22: the first character that cannot stand at its place when the text is read from left to"
                + " right");
        ExamHalls x = new ExamHalls();
        Object[][] rows = {{";;", 0}, {"gg", 0}, {"aa;;", 1}, {"ba;ba", 1}, {"a;ba;", 3}, {"a+0+0", 2}, {"a+101;aa", 4},
            {"arr;;", 2}, {"a;;a", 2}, {"xa;b;c", 0}, {"a;b;c!", 5}, {"a+1;b+r;c+0", 6}, {"r;aa", 0}, {"a;r", 2}};
        for (Object[] row : rows) {
            Due.is("fault of " + row[0], faultAfter(x, (String) row[0]), (int) row[1]);
        }
    }

    private static void faultsOfAFullPad() {
        Due.sentence("The pad is a text of at most 60 characters (all of them are read)");
        String most = "abcdef+100r;abcdef+100r;abcdef+100r;abcdef+100r;";
        Due.is("60 without a fault", faultAfter(new ExamHalls(), most + "ab;cdef+100r"), NONE);
        Due.is("the last one is the fault", faultAfter(new ExamHalls(), most + "ab;cdef+1000"), 59);
        Due.is("60 that end too early", faultAfter(new ExamHalls(), most + "abcdef+100r;"), 60);
        Due.is("60 that end too early, with a plus", faultAfter(new ExamHalls(), most + "a;bc;d;cdef+"), 60);
        Due.is("59 without a fault", faultAfter(new ExamHalls(), most + "ab;cdef+100"), NONE);
        Due.is("the first one is the fault", faultAfter(new ExamHalls(), "+" + most + "ab;cdef+100"), 0);
        StringBuilder many = new StringBuilder("a");
        for (int i = 0; i < 29; i++) {
            many.append(";a");
        }
        Due.is("30 pupils: 59", faultAfter(new ExamHalls(), many.toString()), NONE);
        Due.is("30 pupils: 60", faultAfter(new ExamHalls(), many + "r"), NONE);
        Due.is("a 31st one would come", faultAfter(new ExamHalls(), many + ";"), 60);
    }

    private static void faultChangesNothing() {
        Due.sentence("22: Returns the fault of the pad, NONE if there is none");
        ExamHalls x = Schools.withPupils("ab;c");
        Schools.type(x, "a+12r;b");
        String before = Schools.view(x);
        Due.is("none", x.fault(), NONE);
        Due.is("none again", x.fault(), NONE);
        Due.isSame("nothing changes", Schools.view(x), before);
        x.put('b');
        Due.is("a letter twice", x.fault(), 7);
        Due.is("again", x.fault(), 7);
        Due.is("pad", x.count(11), 8);
    }

    private static void whatThePadMeans() {
        Due.sentence("'r' means that the pupil needs a reader (it alone, and no other pupil)");
        ExamHalls x = Schools.withPupils("a;br;c;d+5;e+5r;f");
        int[] readers = {0, 1, 0, 0, 1, 0};
        int[] extras = {0, 0, 0, 5, 5, 0};
        for (int pupil = 0; pupil < 6; pupil++) {
            Due.is("papers", x.pupilOf(pupil, 0), 1 << pupil);
            Due.is("extra", x.pupilOf(pupil, 1), extras[pupil]);
            Due.is("reader", x.pupilOf(pupil, 2), readers[pupil]);
        }
    }
}
