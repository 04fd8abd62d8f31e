/** Promises 1 to 9 at their edges, a test for each sentence. RefusalsTest has the sentences on errors once more. */
public final class ChangesEdgesTest {
    private static final int NO_SUCH = -1, BAD_VALUE = -2, BAD_TEXT = -3, TOO_MANY = -4, NOT_POSSIBLE = -5, NONE = -6;
    private static final int A = Schools.A, B = Schools.B, C = Schools.C, F = Schools.F;

    private ChangesEdgesTest() {
    }

    public static void main(String[] args) {
        newObject();
        setReturnsThePreviousValue();
        paperReturnsTheStartBefore();
        paperChangesOnePaper();
        pupilReturnsItsNumber();
        pupilTooMany();
        readReturnsHowManyThereAre();
        readEmptiesThePad();
        readOfTheMostPupils();
        readTooMany();
        readBadText();
        changeReturnsItsClashes();
        changeOfTheFirstAndTheLast();
        leaveReturnsItsPapers();
        leaveMovesThoseBehind();
        hallReturnsHowManyDesks();
        hallSeatsAllAnew();
        openReturnsThoseWithoutAPlace();
        openAndClosedAlready();
        eachIsAChange();
        eachSeatsAllAnew();
        Due.end();
    }

    private static void newObject() {
        Due.sentence("1: Creates a school without pupils, with one open hall");
        ExamHalls x = new ExamHalls();
        Due.is("pupils", x.count(3), 0);
        Due.is("sittings", x.count(4), 0);
        Due.is("without a place", x.count(5), 0);
        Due.is("clashes", x.count(6), 0);
        Due.is("open halls", x.count(7), 1);
        Due.is("desks of open halls", x.count(8), 4);
        Due.is("readers at once", x.count(9), 0);
        Due.is("the last end", x.count(10), 0);
        Due.is("pad", x.count(11), 0);
        Due.is("fault of an empty pad", x.fault(), 0);
        Due.is("wipe", x.wipe(), 0);
        Due.is("history", x.count(12), 0);
        Due.is("undo", x.undo(), NOT_POSSIBLE);
        for (int slot = 0; slot < 2; slot++) {
            Due.is("restore", x.restore(slot), NOT_POSSIBLE);
        }
        Due.is("nobody to leave", x.leave(0), NO_SUCH);
        Due.is("nobody to change", x.change(0, A, 0, false), NO_SUCH);
        Due.is("nobody to look at", x.pupilOf(0, 0), NO_SUCH);
        Due.is("no sitting to look at", x.sitting(0, 0, 0), NO_SUCH);
        Due.is("halls", x.bestHalls(0), 0);
        Due.is("without a place", x.bestHalls(1), 0);
        Due.is("rooms", x.leastRooms(), 0);
        for (int paper = 0; paper < 6; paper++) {
            Due.is("start", x.paperOf(paper, 0), 0);
            Due.is("minutes", x.paperOf(paper, 1), 60);
            Due.is("pupils", x.paperOf(paper, 2), 0);
            Due.is("last end", x.paperOf(paper, 3), NONE);
            Due.is("without a place", x.paperOf(paper, 4), 0);
            Due.is("halls", x.paperOf(paper, 5), 0);
            Due.is("best start", x.bestStart(paper), 0);
        }
    }

    private static void setReturnsThePreviousValue() {
        Due.sentence("2: Returns the previous value");
        ExamHalls x = new ExamHalls();
        Due.is("SPREAD, first", x.set(0, 0), 1);
        Due.is("SPREAD", x.set(0, 1), 0);
        Due.is("SPREAD, the same", x.set(0, 1), 1);
        Due.is("ROOMS, first", x.set(1, 6), 1);
        Due.is("ROOMS", x.set(1, 0), 6);
        Due.is("ROOMS, the same", x.set(1, 0), 0);
        Due.is("GAP, first", x.set(2, 60), 10);
        Due.is("GAP", x.set(2, 0), 60);
        Due.is("GAP, the same", x.set(2, 0), 0);
        Due.is("the others stay: SPREAD", x.count(0), 1);
        Due.is("the others stay: ROOMS", x.count(1), 0);
    }

    private static void paperReturnsTheStartBefore() {
        Due.sentence("3: Returns the start before");
        ExamHalls x = new ExamHalls();
        for (int paper = 0; paper < 6; paper++) {
            Due.is("at first", x.paper(paper, 19, 30), 0);
            Due.is("the greatest", x.paper(paper, 0, 180), 19);
            Due.is("the least", x.paper(paper, paper, 60), 0);
            Due.is("the same", x.paper(paper, paper, 60), paper);
        }
        Due.is("after an error", x.paper(5, 20, 60), BAD_VALUE);
        Due.is("still the start before it", x.paper(5, 0, 60), 5);
    }

    private static void paperChangesOnePaper() {
        Due.sentence("3: Changes a paper");
        for (int paper = 0; paper < 6; paper++) {
            ExamHalls x = Schools.withPupils("abcdef");
            x.paper(paper, 19, 180);
            for (int other = 0; other < 6; other++) {
                Due.is("start of " + other, x.paperOf(other, 0), other == paper ? 19 : 0);
                Due.is("minutes of " + other, x.paperOf(other, 1), other == paper ? 180 : 60);
                Due.is("end of " + other, x.sitting(0, other, 1), other == paper ? 750 : 60);
            }
            x.paper(paper, 0, 30);
            Due.is("the least of both", x.sitting(0, paper, 1), 30);
        }
    }

    private static void pupilReturnsItsNumber() {
        Due.sentence("4: A pupil comes. Returns its number");
        ExamHalls x = new ExamHalls();
        for (int number = 0; number < 16; number++) {
            Due.is("pupils ahead of it", x.count(3), number);
            Due.is("number", x.pupil(number % 2 == 0 ? 1 : 63, number % 2 == 0 ? 0 : 100, number % 3 == 0), number);
        }
        x.leave(3);
        Due.is("the last number again", x.pupil(F, 0, false), 15);
    }

    private static void pupilTooMany() {
        Due.sentence("4: BAD_VALUE if an argument is out of range; TOO_MANY if there are 16");
        ExamHalls x = Schools.withPupils(15, A, 0, false);
        Due.is("the 16th", x.pupil(63, 100, true), 15);
        Due.is("the 17th", x.pupil(63, 100, true), TOO_MANY);
        Due.is("the 17th, no papers", x.pupil(0, 100, true), BAD_VALUE);
        Due.is("the 17th, 101 hundredths", x.pupil(63, 101, true), BAD_VALUE);
        x.leave(15);
        Due.is("the 16th again", x.pupil(1, 0, false), 15);
        Due.is("pupils", x.count(3), 16);
    }

    private static void readReturnsHowManyThereAre() {
        Due.sentence("5: Lets the pupils of the pad come. Returns how many pupils there are then");
        ExamHalls x = new ExamHalls();
        Schools.type(x, "a");
        Due.is("the shortest text", x.read(), 1);
        Schools.type(x, "f+100r");
        Due.is("one more", x.read(), 2);
        Schools.type(x, "abcdef+1;b+99;cr");
        Due.is("three more", x.read(), 5);
        int[][] want = {{A, 0, 0}, {F, 100, 1}, {63, 1, 0}, {B, 99, 0}, {C, 0, 1}};
        for (int pupil = 0; pupil < 5; pupil++) {
            for (int what = 0; what < 3; what++) {
                Due.is("pupil " + pupil + ", " + what, x.pupilOf(pupil, what), want[pupil][what]);
            }
        }
        Due.is("the next number", x.pupil(A, 0, false), 5);
    }

    private static void readEmptiesThePad() {
        Due.sentence("5: and empties the pad");
        ExamHalls x = new ExamHalls();
        Schools.type(x, "ab;cdef+100r");
        Due.is("read", x.read(), 2);
        Due.is("pad", x.count(11), 0);
        Due.is("fault", x.fault(), 0);
        Due.is("read again", x.read(), BAD_TEXT);
        Due.is("wipe", x.wipe(), 0);
        Due.is("put to an empty pad", x.put(Schools.word("c")), 1);
        Due.is("read", x.read(), 3);
        Due.is("nothing of the first text", x.pupilOf(2, 0), C);
        ExamHalls full = new ExamHalls();
        for (int i = 0; i < 5; i++) {
            Schools.type(full, i == 0 ? "abcdef+100rx" : "abcdef+100r;");
        }
        Due.is("a full pad", full.count(11), 60);
        Due.is("with a fault", full.read(), BAD_TEXT);
        full.wipe();
        for (int i = 0; i < 5; i++) {
            Schools.type(full, i == 4 ? "ab;cdef+100r" : "abcdef+100r;");
        }
        Due.is("a full pad", full.count(11), 60);
        Due.is("without one", full.read(), 6);
        Due.is("pad", full.count(11), 0);
        Due.is("the last one of 60 characters: papers", full.pupilOf(5, 0), 4 + 8 + 16 + 32);
        Due.is("the last one of 60 characters: reader", full.pupilOf(5, 2), 1);
    }

    private static String pupilsOfText(int many) {
        StringBuilder text = new StringBuilder();
        for (int i = 0; i < many; i++) {
            text.append(i == 0 ? "" : ";").append((char) ('a' + i % 6));
        }
        return text.toString();
    }

    private static void readOfTheMostPupils() {
        Due.sentence("5: TOO_MANY if there would be more than 16");
        for (int there = 0; there <= 16; there++) {
            for (int come = 1; come <= 18; come++) {
                ExamHalls x = Schools.withPupils(there, 63, 7, true);
                Schools.type(x, pupilsOfText(come));
                boolean isTaken = there + come <= 16;
                Due.is(come + " to " + there, x.read(), isTaken ? there + come : TOO_MANY);
                Due.is("pupils", x.count(3), isTaken ? there + come : there);
                Due.is("pad", x.count(11), isTaken ? 0 : 2 * come - 1);
                if (isTaken) {
                    Due.is("the first one", x.pupilOf(there, 0), A);
                    Due.is("the last one", x.pupilOf(there + come - 1, 0), 1 << (come - 1) % 6);
                    Due.is("no extra time", x.pupilOf(there, 1), 0);
                    Due.is("no reader", x.pupilOf(there, 2), 0);
                }
            }
        }
    }

    private static void readTooMany() {
        Due.sentence("5: TOO_MANY if there would be more than 16 (as many as 60 characters hold)");
        ExamHalls x = new ExamHalls();
        Schools.type(x, pupilsOfText(30));
        Due.is("30 pupils in 59 characters", x.count(11), 59);
        Due.is("no fault", x.fault(), NONE);
        Due.is("read", x.read(), TOO_MANY);
        Due.is("pupils", x.count(3), 0);
        Due.is("history", x.count(12), 0);
        Schools.type(x, "f");
        Due.is("60 characters, the last letter twice", x.fault(), 59);
        Due.is("read", x.read(), BAD_TEXT);
        x.wipe();
        Schools.type(x, pupilsOfText(16));
        Due.is("16 pupils", x.read(), 16);
        Due.is("without a place", x.count(5), 12);
    }

    private static void readBadText() {
        Due.sentence("5: BAD_TEXT if the pad has a fault; TOO_MANY if there would be more than 16");
        ExamHalls x = Schools.withPupils(16, A, 0, false);
        Due.is("an empty pad ahead of too many", x.read(), BAD_TEXT);
        Schools.type(x, "a;");
        Due.is("a text that ends too early ahead of too many", x.read(), BAD_TEXT);
        Schools.type(x, "b");
        Due.is("too many", x.read(), TOO_MANY);
        Schools.type(x, "a");
        Due.is("a fault ahead of too many", x.read(), BAD_TEXT);
        Due.is("pad", x.count(11), 4);
        Due.is("its fault", x.fault(), 3);
        ExamHalls y = new ExamHalls();
        String[] bad = {"a;b;", "a;b;c+", "a;b;c+101", "a;b;aa", "x;a;b"};
        for (String text : bad) {
            Schools.type(y, text);
            Due.is("read of " + text, y.read(), BAD_TEXT);
            Due.is("nobody of " + text + " comes", y.count(3), 0);
            Due.is("wipe", y.wipe(), text.length());
        }
    }

    private static void changeReturnsItsClashes() {
        Due.sentence("6: Returns how many clashes it has then");
        ExamHalls x = Schools.withPupils("a;abcdef;f");
        int[] sets = {1, 3, 7, 15, 31, 63};
        int[] pairs = {0, 1, 3, 6, 10, 15};
        for (int i = 0; i < 6; i++) {
            Due.is("change to " + sets[i], x.change(0, sets[i], 0, false), pairs[i]);
            Due.is("with a reader", x.change(2, sets[i], 100, true), pairs[i]);
        }
        x.paper(0, 2, 60);
        Due.is("a ahead of the others", x.change(0, 63, 0, false), 10);
        Due.is("with extra time", x.change(0, 63, 1, false), 15);
        Due.is("one paper", x.change(0, 32, 100, false), 0);
        Due.is("all: of the other two", x.count(6), 10 + 15);
    }

    private static void changeOfTheFirstAndTheLast() {
        Due.sentence("6: Changes a pupil; NO_SUCH if there is no such pupil; BAD_VALUE as for pupil()");
        ExamHalls x = Schools.withPupils(16, A, 0, false);
        Due.is("the first one", x.change(0, 63, 100, true), 15);
        Due.is("the last one", x.change(15, F, 1, true), 0);
        Due.is("behind the last one", x.change(16, F, 1, true), NO_SUCH);
        Due.is("ahead of the first one", x.change(-1, F, 1, true), NO_SUCH);
        for (int pupil = 0; pupil < 16; pupil++) {
            Due.is("papers of " + pupil, x.pupilOf(pupil, 0), pupil == 0 ? 63 : pupil == 15 ? F : A);
            Due.is("extra of " + pupil, x.pupilOf(pupil, 1), pupil == 0 ? 100 : pupil == 15 ? 1 : 0);
            Due.is("reader of " + pupil, x.pupilOf(pupil, 2), pupil == 0 || pupil == 15 ? 1 : 0);
        }
        Due.is("back to the least of all", x.change(0, 1, 0, false), 0);
        Due.is("reader", x.pupilOf(0, 2), 0);
        Due.is("change of nobody, and bad values", x.change(16, 0, 101, false), NO_SUCH);
        Due.is("no papers", x.change(15, 0, 0, false), BAD_VALUE);
        Due.is("64", x.change(15, 64, 0, false), BAD_VALUE);
        Due.is("-1 hundredths", x.change(15, 1, -1, false), BAD_VALUE);
        Due.is("101 hundredths", x.change(15, 1, 101, false), BAD_VALUE);
    }

    private static void leaveReturnsItsPapers() {
        Due.sentence("7: A pupil leaves. Returns its papers");
        for (int papers = 1; papers <= 63; papers++) {
            ExamHalls x = new ExamHalls();
            x.pupil(papers, 0, false);
            Due.is("leave", x.leave(0), papers);
            Due.is("pupils", x.count(3), 0);
            Due.is("sittings", x.count(4), 0);
            Due.is("again", x.leave(0), NO_SUCH);
            Due.is("the desk is free", x.at(0, 0, 0), NONE);
        }
    }

    private static void leaveMovesThoseBehind() {
        Due.sentence("7: those behind it get numbers that are 1 less");
        for (int gone = 0; gone < 16; gone++) {
            ExamHalls x = new ExamHalls();
            for (int pupil = 0; pupil < 16; pupil++) {
                x.pupil(pupil + 1, 2 * pupil, pupil % 2 == 0);
            }
            Due.is("leave", x.leave(gone), gone + 1);
            for (int pupil = 0; pupil < 15; pupil++) {
                int before = pupil < gone ? pupil : pupil + 1;
                Due.is("papers of " + pupil, x.pupilOf(pupil, 0), before + 1);
                Due.is("extra of " + pupil, x.pupilOf(pupil, 1), 2 * before);
                Due.is("reader of " + pupil, x.pupilOf(pupil, 2), 1 - before % 2);
            }
            Due.is("no 16th", x.pupilOf(15, 0), NO_SUCH);
            Due.is("no 16th to leave", x.leave(15), NO_SUCH);
            Due.is("a new one", x.pupil(F, 3, false), 15);
            Due.is("its papers", x.pupilOf(15, 0), F);
        }
    }

    private static void hallReturnsHowManyDesks() {
        Due.sentence("8: Changes the desks of a hall. Returns how many desks it had");
        for (int hall = 0; hall < 4; hall++) {
            ExamHalls x = new ExamHalls();
            int before = 4;
            for (int rows = 1; rows <= 4; rows++) {
                for (int columns = 4; columns >= 1; columns--) {
                    Due.is(rows + " x " + columns, x.hall(hall, rows, columns), before);
                    before = rows * columns;
                    Due.is("rows", x.hallOf(hall, 0), rows);
                    Due.is("columns", x.hallOf(hall, 1), columns);
                }
            }
            for (int other = 0; other < 4; other++) {
                Due.is("the others stay", x.hallOf(other, 0), other == hall ? 4 : 2);
                Due.is("the others stay", x.hallOf(other, 1), other == hall ? 1 : 2);
                Due.is("open or closed as before", x.hallOf(other, 2), other == 0 ? 1 : 0);
            }
        }
    }

    private static void hallSeatsAllAnew() {
        Due.sentence("8: Changes the desks of a hall (1 to 4): who sits there, and who does not any more");
        ExamHalls x = Schools.withPupils(16, A, 0, false);
        x.set(0, 0);
        int[][] sizes = {{4, 4}, {1, 1}, {3, 4}, {4, 3}, {1, 4}, {4, 1}, {2, 2}};
        for (int[] size : sizes) {
            x.hall(0, size[0], size[1]);
            int desks = size[0] * size[1];
            Due.is(desks + " desks", x.hallOf(0, 3), desks);
            Due.is("without a place", x.count(5), 16 - desks);
            Due.is("the last desk", x.at(0, desks - 1, 0), 6 * (desks - 1));
            Due.is("the next pupil", desks == 16 ? NONE : x.sitting(desks, 0, 3), NONE);
        }
    }

    private static void openReturnsThoseWithoutAPlace() {
        Due.sentence("9: Returns how many sittings have no place then");
        ExamHalls x = Schools.withPupils(16, 63, 0, false);
        Due.is("96 sittings, and the last hall closes", x.open(0, false), 96);
        x.set(0, 0);
        for (int hall = 3; hall >= 0; hall--) {
            x.hall(hall, 4, 4);
            Due.is("open " + hall, x.open(hall, true), 96 - 16 * (4 - hall));
        }
        Due.is("close one", x.open(2, false), 48);
        ExamHalls y = Schools.withPupils("a");
        Due.is("one", y.open(0, false), 1);
        Due.is("none", y.open(3, true), 0);
        ExamHalls z = Schools.withPupils("ar;ar");
        Due.is("those with readers count too", z.open(1, true), 1);
        Due.is("nobody", new ExamHalls().open(0, false), 0);
    }

    private static void openAndClosedAlready() {
        Due.sentence("9: NO_SUCH if there is no such hall; NOT_POSSIBLE if it is so already");
        ExamHalls x = new ExamHalls();
        for (int hall = 0; hall < 4; hall++) {
            boolean isOpen = hall == 0;
            Due.is("so already", x.open(hall, isOpen), NOT_POSSIBLE);
            Due.is("the other way", x.open(hall, !isOpen), 0);
            Due.is("so already", x.open(hall, !isOpen), NOT_POSSIBLE);
            Due.is("open", x.hallOf(hall, 2), isOpen ? 0 : 1);
        }
        Due.is("all but the hall 0", x.count(7), 14);
        Due.is("no hall -1 to open", x.open(-1, true), NO_SUCH);
        Due.is("no hall -1 to close", x.open(-1, false), NO_SUCH);
        Due.is("no hall 4 to open", x.open(4, true), NO_SUCH);
        Due.is("no hall 4 to close", x.open(4, false), NO_SUCH);
    }

    /** Each method of which the document says so, also if nothing is different then. */
    private static void eachIsAChange() {
        Due.sentence("2 to 9: This is a change.");
        for (int kind = 0; kind <= 9; kind++) {
            ExamHalls x = Schools.withPupils("ab+5;cr");
            Schools.type(x, "d");
            String before = Schools.shortView(x);
            switch (kind) {
                case 0 -> Due.is("set", x.set(2, 10), 10);
                case 1 -> Due.is("paper", x.paper(0, 0, 60), 0);
                case 2 -> Due.is("pupil", x.pupil(1, 0, false), 2);
                case 3 -> Due.is("read", x.read(), 3);
                case 4 -> Due.is("change", x.change(0, A + B, 5, false), 1);
                case 5 -> Due.is("leave", x.leave(1), C);
                case 6 -> Due.is("hall", x.hall(0, 2, 2), 4);
                case 7 -> Due.is("open", x.open(0, false), 2);
                case 8 -> Due.is("paper", x.paper(5, 19, 180), 0);
                default -> Due.is("set", x.set(0, 0), 1);
            }
            Due.is("history after change " + kind, x.count(12), 2);
            Due.is("undo of change " + kind, x.undo(), 1);
            Due.isSame("all as before change " + kind, Schools.shortView(x), before);
        }
    }

    /** The first look after each change is at where somebody sits. */
    private static void eachSeatsAllAnew() {
        Due.sentence("All sittings are seated one after the other (anew with each change)");
        ExamHalls x = new ExamHalls();
        x.pupil(A, 0, false);
        Due.is("pupil", x.sitting(0, 0, 3), 0);
        x.pupil(A, 0, false);
        Due.is("pupil", x.at(0, 3, 0), 6);
        x.put(Schools.word("ar;b"));
        x.read();
        Due.is("read", x.sitting(2, 0, 4), 0);
        Due.is("read", x.at(0, 1, 0), 19);
        x.change(0, A, 0, true);
        Due.is("change", x.sitting(0, 0, 4), 0);
        Due.is("change: the next one has its desk", x.at(0, 0, 0), 6);
        x.leave(0);
        Due.is("leave: the one behind it", x.at(0, 0, 0), 0);
        Due.is("leave: the room", x.sitting(1, 0, 4), 0);
        x.hall(0, 1, 1);
        Due.is("hall: b", x.sitting(2, 1, 2), NONE);
        x.open(2, true);
        Due.is("open: b", x.sitting(2, 1, 2), 2);
        x.open(0, false);
        Due.is("close: a", x.sitting(0, 0, 2), 2);
        x.paper(0, 19, 60);
        Due.is("paper: b first", x.at(2, 0, 0), 13);
        x.set(1, 0);
        Due.is("set ROOMS", x.sitting(1, 0, 4), NONE);
        x.undo();
        Due.is("undo", x.sitting(1, 0, 4), 0);
        x.save(0);
        x.pupil(A, 0, false);
        Due.is("pupil", x.at(2, 3, 570), 18);
        x.set(0, 0);
        Due.is("set SPREAD", x.at(2, 1, 570), 18);
        x.restore(0);
        Due.is("restore", x.at(2, 1, 570), NONE);
        x.paper(1, 17, 60);
        Due.is("paper: a at the desk of b", x.sitting(0, 0, 3), 1);
        x.set(2, 0);
        Due.is("set GAP", x.sitting(0, 0, 3), 0);
    }
}
