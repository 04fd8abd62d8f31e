/** The sentences under 'What it is' and 'Terms' that name an edge, each by itself. RefusalsTest has those on errors. */
public final class TermsEdgesTest {
    private static final int NO_SUCH = -1, BAD_VALUE = -2, NOT_POSSIBLE = -5, NONE = -6;
    private static final int A = Schools.A, B = Schools.B, C = Schools.C, D = Schools.D, F = Schools.F;

    private TermsEdgesTest() {
    }

    public static void main(String[] args) {
        callsOfAnObject();
        errorCodes();
        noneIsNoError();
        numbersAndSets();
        firstSettings();
        settingSpread();
        settingRooms();
        settingGap();
        papers();
        pupils();
        lengthsOfSittings();
        halls();
        numbersOfDesks();
        startsComeFirst();
        papersComeNext();
        pupilsComeLast();
        gapsAtADesk();
        gapsInARoom();
        gapsOfOnePupil();
        everyOneAheadCounts();
        lowestRoom();
        readersAndOthers();
        firstDeskOfOpenHalls();
        besideOneAnother();
        notBesideOneAnother();
        samePaperAtOneTime();
        noPlaceTakesNone();
        clashes();
        clashingSittingsAreSeated();
        Due.end();
    }

    private static void callsOfAnObject() {
        Due.sentence("An object is used for at most 512 calls after it has been made");
        ExamHalls x = new ExamHalls();
        int before = 10;
        for (int call = 1; call <= 510; call++) {
            int gap = call % 61;
            Due.is("call " + call, x.set(2, gap), before);
            before = gap;
        }
        Due.is("call 511", x.count(12), 6);
        Due.is("call 512", x.undo(), 5);
        ExamHalls y = new ExamHalls();
        for (int call = 1; call <= 511; call += 2) {
            Due.is("call " + call, y.pupil(63, 100, false), 0);
            Due.is("call " + (call + 1), y.leave(0), 63);
        }
        ExamHalls z = new ExamHalls();
        for (int call = 1; call <= 511; call += 2) {
            Due.is("call " + call, z.put(Schools.word("abcdefgh")), 8);
            Due.is("call " + (call + 1), z.wipe(), 8);
        }
        ExamHalls w = Schools.withPupils(16, 63, 100, false);
        for (int call = 17; call <= 512; call++) {
            Due.is("call " + call, w.bestHalls(1), 80);
        }
    }

    private static void errorCodes() {
        Due.sentence("NO_SUCH (-1), BAD_VALUE (-2), BAD_TEXT (-3), TOO_MANY (-4) and NOT_POSSIBLE (-5); NONE (-6)");
        Due.is("NO_SUCH", ExamHalls.NO_SUCH, -1);
        Due.is("BAD_VALUE", ExamHalls.BAD_VALUE, -2);
        Due.is("BAD_TEXT", ExamHalls.BAD_TEXT, -3);
        Due.is("TOO_MANY", ExamHalls.TOO_MANY, -4);
        Due.is("NOT_POSSIBLE", ExamHalls.NOT_POSSIBLE, -5);
        Due.is("NONE", ExamHalls.NONE, -6);
        Due.is("SPREAD", ExamHalls.SPREAD, 0);
        Due.is("ROOMS", ExamHalls.ROOMS, 1);
        Due.is("GAP", ExamHalls.GAP, 2);
        ExamHalls x = new ExamHalls();
        Due.is("bestStart(6)", x.bestStart(6), -1);
        Due.is("set(3, 0)", x.set(3, 0), -2);
        Due.is("read of nothing", x.read(), -3);
        Due.is("undo of nothing", x.undo(), -5);
        Due.is("nobody", x.at(0, 0, 0), -6);
        for (int pupil = 0; pupil < 16; pupil++) {
            x.pupil(1, 0, false);
        }
        Due.is("a 17th pupil", x.pupil(1, 0, false), -4);
    }

    private static void noneIsNoError() {
        Due.sentence("NONE (-6) is not an error; it is returned only if no error applies");
        ExamHalls x = Schools.withPupils("br");
        Due.is("no sitting of a", x.paperOf(0, 3), NONE);
        Due.is("no paper 6", x.paperOf(6, 3), NO_SUCH);
        Due.is("no desk", x.sitting(0, 1, 3), NONE);
        Due.is("no sitting", x.sitting(0, 0, 3), NOT_POSSIBLE);
        Due.is("no such pupil", x.sitting(1, 1, 3), NO_SUCH);
        Due.is("nobody there", x.at(0, 3, 0), NONE);
        Due.is("no desk 4", x.at(0, 4, 0), NO_SUCH);
        Due.is("no minute -1", x.at(0, 3, -1), BAD_VALUE);
        Due.is("nobody in a closed hall", x.at(3, 3, 0), NONE);
        Due.is("no desk 4 in a closed hall", x.at(3, 4, 0), NO_SUCH);
    }

    private static void numbersAndSets() {
        Due.sentence("Everything is numbered from 0. Sets are bit masks.");
        ExamHalls x = Schools.withPupils(16, F, 0, false);
        Due.is("papers of the last pupil", x.pupilOf(15, 0), 32);
        Due.is("all pupils", x.paperOf(5, 2), 65535);
        x.change(15, A, 0, false);
        Due.is("the last pupil alone", x.paperOf(0, 2), 32768);
        x.change(0, A, 0, false);
        Due.is("the first and the last one", x.paperOf(0, 2), 32769);
        x.open(3, true);
        x.open(0, false);
        Due.is("the last hall", x.count(7), 8);
        Due.is("the hall of the first one", x.paperOf(0, 5), 8);
        Due.is("nobody's papers without a place", x.pupilOf(0, 4), 0);
        x.open(3, false);
        Due.is("paper a of the first one", x.pupilOf(0, 4), 1);
        Due.is("paper f of the others", x.pupilOf(1, 4), 32);
    }

    private static void firstSettings() {
        Due.sentence("(In parentheses: range; first value.) SPREAD (0 or 1; 1). ROOMS (0 to 6; 1). GAP (0 to 60; 10)");
        ExamHalls x = new ExamHalls();
        Due.is("SPREAD", x.count(0), 1);
        Due.is("ROOMS", x.count(1), 1);
        Due.is("GAP", x.count(2), 10);
        int[] highest = {1, 6, 60};
        for (int setting = 0; setting <= 2; setting++) {
            for (int value = -2; value <= 62; value++) {
                boolean isTaken = value >= 0 && value <= highest[setting];
                int before = x.count(setting);
                Due.is("set(" + setting + ", " + value + ")", x.set(setting, value), isTaken ? before : BAD_VALUE);
                // Back to its own first value, so that the next answer tells whether the value was taken.
                Due.is("it is", x.set(setting, setting), isTaken ? value : before);
            }
            x = new ExamHalls();
        }
    }

    private static void settingSpread() {
        Due.sentence("SPREAD (0 or 1)");
        ExamHalls x = Schools.withPupils("a;a");
        x.hall(0, 1, 2);
        Due.is("1: no desk beside", x.count(5), 1);
        x.set(0, 0);
        Due.is("0: a desk beside", x.count(5), 0);
        Due.is("0: its desk", x.sitting(1, 0, 3), 1);
        x.set(0, 1);
        Due.is("1: no desk beside", x.count(5), 1);
    }

    private static void settingRooms() {
        Due.sentence("the lowest room that is free for it, of the rooms 0 to ROOMS less 1; ROOMS 0 to 6");
        for (int rooms = 0; rooms <= 6; rooms++) {
            ExamHalls x = Schools.withPupils(7, C, 0, true);
            x.set(1, rooms);
            for (int pupil = 0; pupil < 7; pupil++) {
                Due.is(rooms + " rooms, pupil " + pupil, x.sitting(pupil, 2, 4), pupil < rooms ? pupil : NONE);
            }
            Due.is(rooms + " rooms: without a place", x.count(5), 7 - rooms);
        }
    }

    private static void settingGap() {
        Due.sentence("GAP (0 to 60): minutes");
        ExamHalls x = Schools.withPupils("a;b");
        x.hall(0, 1, 1);
        x.paper(0, 0, 60);
        x.paper(1, 4, 60);
        for (int gap = 0; gap <= 60; gap++) {
            x.set(2, gap);
            Due.is("60 minutes apart, gap " + gap, x.count(5), 0);
        }
        x.paper(0, 0, 61);
        Due.is("59 minutes apart, gap 60", x.count(5), 1);
        x.set(2, 59);
        Due.is("59 minutes apart, gap 59", x.count(5), 0);
    }

    private static void papers() {
        Due.sentence("6 papers, 0 to 5, each with a start, 0 to 19, and minutes, 30 to 180 (at first 0, and 60)");
        ExamHalls x = Schools.withPupils("abcdef");
        for (int paper = 0; paper < 6; paper++) {
            Due.is("start", x.paperOf(paper, 0), 0);
            Due.is("minutes", x.paperOf(paper, 1), 60);
            for (int start = -1; start <= 20; start++) {
                boolean isTaken = start >= 0 && start <= 19;
                int before = x.paperOf(paper, 0);
                Due.is("start " + start, x.paper(paper, start, 60), isTaken ? before : BAD_VALUE);
            }
            Due.is("begins", x.sitting(0, paper, 0), 570);
        }
        Due.is("paper -1", x.paper(-1, 0, 60), NO_SUCH);
        Due.is("paper 6", x.paper(6, 0, 60), NO_SUCH);
        ExamHalls y = Schools.withPupils("f");
        int last = 60;
        for (int minutes = 28; minutes <= 182; minutes++) {
            boolean isTaken = minutes >= 30 && minutes <= 180;
            Due.is("minutes " + minutes, y.paper(5, 19, minutes), !isTaken ? BAD_VALUE : minutes == 30 ? 0 : 19);
            last = isTaken ? minutes : last;
            Due.is("after " + minutes, y.paperOf(5, 1), last);
        }
        Due.is("the latest end without extra time", y.count(10), 750);
    }

    private static void pupils() {
        Due.sentence("up to 16 pupils, numbered in the order in which they came, each with a set of papers, one at least,"
                + " extra time, 0 to 100 hundredths");
        ExamHalls x = new ExamHalls();
        for (int number = 0; number < 16; number++) {
            Due.is("number", x.pupil(number + 1, 100 - number, number % 2 == 1), number);
        }
        for (int number = 0; number < 16; number++) {
            Due.is("papers of " + number, x.pupilOf(number, 0), number + 1);
            Due.is("extra of " + number, x.pupilOf(number, 1), 100 - number);
            Due.is("reader of " + number, x.pupilOf(number, 2), number % 2);
        }
        Due.is("a 17th", x.pupil(1, 0, false), -4);
        for (int papers = -1; papers <= 65; papers++) {
            ExamHalls y = new ExamHalls();
            boolean isTaken = papers >= 1 && papers <= 63;
            Due.is("papers " + papers, y.pupil(papers, 0, false), isTaken ? 0 : BAD_VALUE);
            Due.is("papers", y.pupilOf(0, 0), isTaken ? papers : NO_SUCH);
            Due.is("sittings", y.count(4), isTaken ? Integer.bitCount(papers) : 0);
        }
        for (int extra = -1; extra <= 101; extra++) {
            ExamHalls y = new ExamHalls();
            boolean isTaken = extra >= 0 && extra <= 100;
            Due.is("extra " + extra, y.pupil(1, extra, false), isTaken ? 0 : BAD_VALUE);
            Due.is("extra", y.pupilOf(0, 1), isTaken ? extra : NO_SUCH);
        }
    }

    private static void lengthsOfSittings() {
        Due.sentence("from 30 times the start for so many minutes as the paper has, and the extra time:"
                + " minutes * (100 and the extra time) / 100, rounded up");
        for (int minutes = 30; minutes <= 180; minutes++) {
            ExamHalls x = Schools.withPupils("d");
            int start = minutes % 20;
            x.paper(3, start, minutes);
            for (int extra = 0; extra <= 100; extra++) {
                x.change(0, D, extra, false);
                Due.is("begin", x.sitting(0, 3, 0), 30 * start);
                // The least whole number of minutes that is enough.
                int length = 0;
                while (100 * length < minutes * (100 + extra)) {
                    length++;
                }
                Due.is(minutes + " and " + extra + " hundredths", x.sitting(0, 3, 1), 30 * start + length);
            }
        }
        // The same by hand: none over, one hundredth over, 99 over.
        int[][] byHand = {{100, 71, 171}, {31, 71, 54}, {31, 29, 40}, {30, 0, 30}, {30, 1, 31}, {180, 100, 360},
            {180, 99, 359}, {179, 99, 357}, {50, 2, 51}, {51, 2, 53}, {180, 0, 180}};
        for (int[] row : byHand) {
            ExamHalls x = Schools.withPupils("a");
            x.paper(0, 0, row[0]);
            x.change(0, A, row[1], false);
            Due.is(row[0] + " and " + row[1] + " hundredths", x.sitting(0, 0, 1), row[2]);
        }
    }

    private static void halls() {
        Due.sentence("4 halls, 0 to 3, each with rows and columns of desks, 1 to 4 of each (at first 2 and 2), open or"
                + " closed (the hall 0 is open at first, the others are closed)");
        ExamHalls x = new ExamHalls();
        for (int hall = 0; hall < 4; hall++) {
            Due.is("rows", x.hallOf(hall, 0), 2);
            Due.is("columns", x.hallOf(hall, 1), 2);
            Due.is("open", x.hallOf(hall, 2), hall == 0 ? 1 : 0);
            int before = 4;
            for (int rows = 0; rows <= 5; rows++) {
                for (int columns = 0; columns <= 5; columns++) {
                    boolean isTaken = rows >= 1 && rows <= 4 && columns >= 1 && columns <= 4;
                    Due.is(rows + " x " + columns, x.hall(hall, rows, columns), isTaken ? before : BAD_VALUE);
                    before = isTaken ? rows * columns : before;
                    Due.is("desks", x.hallOf(hall, 0) * x.hallOf(hall, 1), before);
                }
            }
        }
        Due.is("hall -1", x.hallOf(-1, 0), NO_SUCH);
        Due.is("hall 4", x.hallOf(4, 0), NO_SUCH);
        ExamHalls y = Schools.withPupils("a");
        y.open(0, false);
        Due.is("nobody sits in closed halls", y.count(5), 1);
    }

    private static void numbersOfDesks() {
        Due.sentence("The desk in the row y and the column x has the number columns * y + x");
        for (int rows = 1; rows <= 4; rows++) {
            for (int columns = 1; columns <= 4; columns++) {
                ExamHalls x = Schools.withPupils(9, A, 0, false);
                x.hall(0, rows, columns);
                // Spread, one paper takes the desks of which row and column together are even.
                int pupil = 0;
                for (int desk = 0; desk < rows * columns; desk++) {
                    if ((desk / columns + desk % columns) % 2 == 0) {
                        Due.is(rows + " x " + columns + ", pupil " + pupil, x.sitting(pupil, 0, 3), desk);
                        Due.is("at " + desk, x.at(0, desk, 0), 6 * pupil);
                        pupil++;
                    } else {
                        Due.is("at " + desk, x.at(0, desk, 0), NONE);
                    }
                }
                Due.is("the next one", x.sitting(pupil, 0, 3), NONE);
                Due.is("the last desk", x.at(0, rows * columns - 1, 999), NONE);
                Due.is("behind it", x.at(0, rows * columns, 0), NO_SUCH);
            }
        }
    }

    private static void startsComeFirst() {
        Due.sentence("All sittings are seated one after the other: by the starts of their papers");
        for (int start = 1; start <= 19; start++) {
            ExamHalls x = Schools.withPupils("f;a");
            x.hall(0, 1, 1);
            x.paper(0, start, 30);
            x.paper(5, start - 1, 60);
            Due.is("f begins first: f", x.sitting(0, 5, 3), 0);
            Due.is("f begins first: a", x.sitting(1, 0, 3), NONE);
        }
    }

    private static void papersComeNext() {
        Due.sentence("of several by papers");
        for (int paper = 0; paper < 5; paper++) {
            ExamHalls x = new ExamHalls();
            x.hall(0, 1, 1);
            x.pupil(1 << paper + 1, 0, false);
            x.pupil(1 << paper, 0, false);
            for (int start = 0; start <= 19; start += 19) {
                x.paper(paper, start, 30);
                x.paper(paper + 1, start, 30);
                Due.is("the lower paper", x.sitting(1, paper, 3), 0);
                Due.is("the higher paper", x.sitting(0, paper + 1, 3), NONE);
            }
        }
    }

    private static void pupilsComeLast() {
        Due.sentence("of these by pupils");
        ExamHalls x = Schools.withPupils(16, B, 0, false);
        x.hall(0, 4, 4);
        x.set(0, 0);
        for (int pupil = 0; pupil < 16; pupil++) {
            Due.is("desk of pupil " + pupil, x.sitting(pupil, 1, 3), pupil);
        }
        x.hall(0, 3, 4);
        for (int pupil = 0; pupil < 16; pupil++) {
            Due.is("12 desks, pupil " + pupil, x.sitting(pupil, 1, 3), pupil < 12 ? pupil : NONE);
        }
    }

    /** Minutes of the first paper, start of the next one, the greatest gap with which it has the same place. */
    private static final int[][] GAPS = {
        {60, 2, 0}, {59, 2, 1}, {50, 2, 10}, {31, 3, 59}, {30, 3, 60}, {90, 4, 30}, {180, 6, 0}, {179, 6, 1},
        {30, 1, 0}};

    private static void gapsAtADesk() {
        Due.sentence("at least GAP minutes apart: that one ends by its start less GAP (a desk)");
        for (int[] row : GAPS) {
            ExamHalls x = Schools.withPupils("a;b");
            x.hall(0, 1, 1);
            x.paper(0, 0, row[0]);
            x.paper(1, row[1], 30);
            x.set(2, row[2]);
            Due.is(row[0] + " minutes, gap " + row[2], x.sitting(1, 1, 3), 0);
            if (row[2] < 60) {
                x.set(2, row[2] + 1);
                Due.is(row[0] + " minutes, gap " + (row[2] + 1), x.sitting(1, 1, 3), NONE);
                x.set(2, row[2]);
            }
            x.change(0, A, 1, false);
            Due.is(row[0] + " minutes and a bit, gap " + row[2], x.sitting(1, 1, 3), NONE);
            if (row[0] >= 32) {
                x.paper(0, 0, row[0] - 2);
                Due.is("two minutes less and a bit, gap " + row[2], x.sitting(1, 1, 3), 0);
            }
        }
        ExamHalls last = Schools.withPupils("a;b");
        last.hall(0, 1, 1);
        last.paper(0, 16, 30);
        last.paper(1, 19, 180);
        last.set(2, 60);
        Due.is("at the end of the day", last.sitting(1, 1, 3), 0);
        last.paper(0, 17, 30);
        Due.is("30 minutes apart", last.sitting(1, 1, 3), NONE);
        Due.is("the one ahead keeps its desk", last.sitting(0, 0, 3), 0);
    }

    private static void gapsInARoom() {
        Due.sentence("at least GAP minutes apart: that one ends by its start less GAP (a room)");
        for (int[] row : GAPS) {
            ExamHalls x = Schools.withPupils("ar;br");
            x.paper(0, 0, row[0]);
            x.paper(1, row[1], 30);
            x.set(2, row[2]);
            Due.is(row[0] + " minutes, gap " + row[2], x.sitting(1, 1, 4), 0);
            if (row[2] < 60) {
                x.set(2, row[2] + 1);
                Due.is(row[0] + " minutes, gap " + (row[2] + 1), x.sitting(1, 1, 4), NONE);
                x.set(2, row[2]);
            }
            x.change(0, A, 1, true);
            Due.is(row[0] + " minutes and a bit, gap " + row[2], x.sitting(1, 1, 4), NONE);
            x.set(1, 2);
            Due.is("the next room", x.sitting(1, 1, 4), 1);
        }
    }

    private static void gapsOfOnePupil() {
        Due.sentence("each one that was seated there ahead of it (also of the same pupil)");
        ExamHalls x = Schools.withPupils("ab;cdr");
        x.hall(0, 1, 1);
        x.paper(1, 2, 60);
        x.paper(3, 2, 60);
        Due.is("gap 10, desk", x.sitting(0, 1, 3), NONE);
        Due.is("gap 10, room", x.sitting(1, 3, 4), NONE);
        x.set(2, 0);
        Due.is("gap 0, desk", x.sitting(0, 1, 3), 0);
        Due.is("gap 0, room", x.sitting(1, 3, 4), 0);
    }

    private static void everyOneAheadCounts() {
        Due.sentence("the span of each one that was seated there ahead of it");
        ExamHalls x = Schools.withPupils("a+100;b;c;d;e;f");
        x.hall(0, 1, 2);
        x.set(2, 0);
        for (int paper = 0; paper < 6; paper++) {
            x.paper(paper, 2 * paper, 60);
        }
        // a is at the desk 0 until 120; b has the desk 1 until 120; then the desk 0 is free for one after the other.
        int[] desks = {0, 1, 0, 0, 0, 0};
        for (int paper = 0; paper < 6; paper++) {
            Due.is("desk of " + (char) ('a' + paper), x.sitting(paper, paper, 3), desks[paper]);
        }
        x.paper(0, 0, 180);
        // a until 360: b and all others have the desk 1.
        for (int paper = 0; paper < 6; paper++) {
            Due.is("desk of " + (char) ('a' + paper), x.sitting(paper, paper, 3), paper == 0 ? 0 : 1);
        }
        x.paper(5, 12, 60);
        Due.is("desk 0 again from 360 on", x.sitting(5, 5, 3), 0);
    }

    private static void lowestRoom() {
        Due.sentence("gets the lowest room that is free for it");
        ExamHalls x = Schools.withPupils("ar;a+50r;a+100r;br;cr;dr");
        x.set(1, 3);
        x.set(2, 0);
        x.paper(1, 3, 60);
        x.paper(2, 4, 60);
        x.paper(3, 4, 60);
        // The rooms 0 to 2 are taken until 60, 90 and 120; b has the room 0 from 90 to 150.
        Due.is("b", x.sitting(3, 1, 4), 0);
        Due.is("c", x.sitting(4, 2, 4), 1);
        Due.is("d", x.sitting(5, 3, 4), 2);
        x.set(1, 2);
        Due.is("two rooms: the third one", x.sitting(2, 0, 4), NONE);
        Due.is("two rooms: c", x.sitting(4, 2, 4), 1);
        Due.is("two rooms: d", x.sitting(5, 3, 4), NONE);
    }

    private static void readersAndOthers() {
        Due.sentence("A sitting of a pupil who needs a reader gets a room; any other one gets a desk");
        ExamHalls x = Schools.withPupils("ar;b");
        Due.is("no hall", x.sitting(0, 0, 2), NONE);
        Due.is("no desk", x.sitting(0, 0, 3), NONE);
        Due.is("room", x.sitting(0, 0, 4), 0);
        Due.is("hall", x.sitting(1, 1, 2), 0);
        Due.is("desk", x.sitting(1, 1, 3), 0);
        Due.is("no room", x.sitting(1, 1, 4), NONE);
        x.set(1, 0);
        Due.is("no room, and no desk instead", x.sitting(0, 0, 3), NONE);
        Due.is("one without a place", x.count(5), 1);
        x.set(1, 6);
        x.open(0, false);
        Due.is("no hall, and no room instead", x.sitting(1, 1, 4), NONE);
        Due.is("the reader's room does without halls", x.sitting(0, 0, 4), 0);
        Due.is("one without a place", x.count(5), 1);
    }

    private static void firstDeskOfOpenHalls() {
        Due.sentence("the first desk, by open halls, then by numbers");
        for (int set = 0; set < 16; set++) {
            ExamHalls x = Schools.withPupils(5, D, 0, false);
            for (int hall = 0; hall < 4; hall++) {
                x.hall(hall, 1, 1);
                x.open(hall, (set >> hall & 1) == 1);
            }
            int pupil = 0;
            for (int hall = 0; hall < 4; hall++) {
                if ((set >> hall & 1) == 1) {
                    Due.is("halls " + set + ", hall of pupil " + pupil, x.sitting(pupil, 3, 2), hall);
                    Due.is("halls " + set + ", desk of pupil " + pupil, x.sitting(pupil, 3, 3), 0);
                    pupil++;
                }
            }
            Due.is("halls " + set + ", the next one", x.sitting(pupil, 3, 2), NONE);
            Due.is("halls " + set + ", without a place", x.count(5), 5 - pupil);
        }
    }

    private static void besideOneAnother() {
        Due.sentence("beside which (in the same row, or in the same column, right next to it) no sitting of the same"
                + " paper");
        ExamHalls x = Schools.withPupils("a;a;a");
        x.hall(0, 1, 2);
        Due.is("to the right", x.sitting(1, 0, 3), NONE);
        x.hall(0, 2, 1);
        Due.is("below", x.sitting(1, 0, 3), NONE);
        x.hall(0, 1, 3);
        Due.is("two to the right", x.sitting(1, 0, 3), 2);
        x.hall(0, 3, 1);
        Due.is("two below", x.sitting(1, 0, 3), 2);
        x.hall(0, 1, 4);
        Due.is("the last one of a row", x.sitting(2, 0, 3), NONE);
        x.hall(0, 4, 1);
        Due.is("the last one of a column", x.sitting(2, 0, 3), NONE);
        x.hall(0, 2, 2);
        Due.is("across is not beside", x.sitting(1, 0, 3), 3);
        Due.is("two neighbours", x.sitting(2, 0, 3), NONE);
    }

    private static void notBesideOneAnother() {
        Due.sentence("(in the same row, or in the same column, right next to it): the end of a row, and other halls");
        // a has the desk 0, b the desk 1 beside it; the next number is in the next row.
        ExamHalls x = Schools.withPupils("a;b;b;b");
        Due.is("b at 1", x.sitting(1, 1, 3), 1);
        Due.is("b at 2, in the next row", x.sitting(2, 1, 3), 2);
        Due.is("3 is beside both", x.sitting(3, 1, 3), NONE);
        // a, b, c at 0, 1, 2: then c at 3, below a.
        ExamHalls y = Schools.withPupils("a;b;c;c;c");
        y.hall(0, 2, 3);
        Due.is("c at the end of the row", y.sitting(2, 2, 3), 2);
        Due.is("c at the begin of the next row", y.sitting(3, 2, 3), 3);
        Due.is("4 is beside 3, 5 is below 2", y.sitting(4, 2, 3), NONE);
        ExamHalls z = Schools.withPupils("a;a;a");
        z.hall(0, 1, 1);
        z.hall(1, 1, 2);
        z.open(1, true);
        Due.is("hall 1", z.sitting(1, 0, 2), 1);
        Due.is("desk 0: the hall 0 does not matter", z.sitting(1, 0, 3), 0);
        Due.is("beside it", z.sitting(2, 0, 2), NONE);
    }

    private static void samePaperAtOneTime() {
        Due.sentence("(of the same paper at all, as these are at the same time)");
        ExamHalls x = Schools.withPupils("a;b;a;b");
        x.hall(0, 1, 4);
        Due.is("another paper may be beside", x.sitting(1, 1, 3), 1);
        Due.is("a", x.sitting(2, 0, 3), 2);
        Due.is("b", x.sitting(3, 1, 3), 3);
        x.paper(1, 4, 60);
        Due.is("another paper at another time", x.sitting(1, 1, 3), 0);
        Due.is("another paper at another time", x.sitting(3, 1, 3), 2);
        // Long and short sittings of one paper begin at the same time: extra time does not matter.
        ExamHalls y = Schools.withPupils("f+100;f");
        y.hall(0, 2, 1);
        Due.is("extra time", y.sitting(1, 5, 3), NONE);
        y.set(0, 0);
        Due.is("no spread", y.sitting(1, 5, 3), 1);
    }

    private static void noPlaceTakesNone() {
        Due.sentence("If there is none, the sitting has no place");
        ExamHalls x = Schools.withPupils("a;b+100;c");
        x.hall(0, 1, 1);
        x.paper(1, 1, 180);
        x.paper(2, 3, 60);
        Due.is("b has no place", x.pupilOf(1, 4), B);
        Due.is("b has no hall", x.sitting(1, 1, 2), NONE);
        Due.is("b has no desk", x.sitting(1, 1, 3), NONE);
        Due.is("b has no room", x.sitting(1, 1, 4), NONE);
        Due.is("c sits where b does not", x.sitting(2, 2, 3), 0);
        Due.is("one", x.count(5), 1);
        ExamHalls y = Schools.withPupils("ar;b+100r;cr");
        y.paper(1, 1, 180);
        y.paper(2, 3, 60);
        Due.is("b has no room", y.sitting(1, 1, 4), NONE);
        Due.is("c has the room", y.sitting(2, 2, 4), 0);
        Due.is("one", y.count(5), 1);
    }

    private static void clashes() {
        Due.sentence("Two sittings of a pupil clash, if neither ends by the start of the other one (GAP does not"
                + " matter)");
        for (int gap = 0; gap <= 60; gap += 30) {
            ExamHalls x = Schools.withPupils("ab;a;b");
            x.set(2, gap);
            Due.is("the same start", x.count(6), 1);
            x.paper(1, 2, 30);
            Due.is("a ends when b begins", x.count(6), 0);
            Due.is("with a: none", x.sitting(0, 0, 5), 0);
            x.paper(0, 0, 61);
            Due.is("a ends a minute later", x.count(6), 1);
            Due.is("with a: b", x.sitting(0, 0, 5), B);
            Due.is("with b: a", x.sitting(0, 1, 5), A);
            x.paper(0, 3, 30);
            Due.is("b ends when a begins", x.count(6), 0);
            x.paper(1, 2, 31);
            Due.is("b ends a minute later", x.count(6), 1);
            x.paper(1, 0, 180);
            Due.is("a within b", x.count(6), 1);
            x.change(0, A + B, 100, false);
            Due.is("with extra time", x.count(6), 1);
            x.paper(1, 0, 45);
            Due.is("b and its extra time end when a begins", x.count(6), 0);
            x.paper(1, 0, 46);
            Due.is("two minutes later", x.count(6), 1);
            x.change(0, A, 0, false);
            Due.is("sittings of two pupils do not clash", x.count(6), 0);
        }
    }

    private static void clashingSittingsAreSeated() {
        Due.sentence("(Two sittings of the same pupil are seated each by itself, also if they clash.)");
        ExamHalls x = Schools.withPupils("abcdef");
        x.hall(0, 2, 3);
        for (int paper = 0; paper < 6; paper++) {
            Due.is("desk of " + paper, x.sitting(0, paper, 3), paper);
        }
        Due.is("clashes", x.count(6), 15);
        Due.is("without a place", x.count(5), 0);
        x.change(0, 63, 0, true);
        x.set(1, 6);
        for (int paper = 0; paper < 6; paper++) {
            Due.is("room of " + paper, x.sitting(0, paper, 4), paper);
        }
    }
}
