/** Promises 10 to 15 at their edges, a test for each sentence. RefusalsTest has the sentences on errors once more. */
public final class AnswersEdgesTest {
    private static final int NO_SUCH = -1, BAD_VALUE = -2, NOT_POSSIBLE = -5, NONE = -6;
    private static final int A = Schools.A, B = Schools.B, C = Schools.C, D = Schools.D, E = Schools.E, F = Schools.F;
    private static final int ALL = 63;

    private AnswersEdgesTest() {
    }

    public static void main(String[] args) {
        pupilOfFirstAndLast();
        clashesOfAPupil();
        papersWithoutAPlace();
        minutesOfAPupil();
        pupilsOfAPaper();
        lastEndOfAPaper();
        sittingsWithoutAPlaceOfAPaper();
        hallsOfAPaper();
        paperOfErrors();
        beginAndEndOfASitting();
        placeOfASitting();
        clashesOfASitting();
        errorsOfASitting();
        sizeOfAHall();
        seatedInAHall();
        mostDesksTaken();
        mostDesksTakenWithEachPaper();
        mostDesksTakenNotTogether();
        countsOfNobody();
        countsOfTheMost();
        countOfHalls();
        countOfReaders();
        countOfReadersAtTheirEdges();
        countOfTheLastEnd();
        countOfThePad();
        countOfTheHistory();
        countErrors();
        atEveryDesk();
        atTheEdgesOfASitting();
        atOneAfterTheOther();
        atErrors();
        lookingChangesNothing();
        Due.end();
    }

    /** 16 pupils with all papers and all extra time, at 64 desks: the most that there can be. */
    private static ExamHalls crowd(boolean withReaders) {
        ExamHalls x = Schools.withPupils(16, ALL, 100, withReaders);
        for (int hall = 0; hall < 4; hall++) {
            x.hall(hall, 4, 4);
            x.open(hall, true);
        }
        for (int paper = 0; paper < 6; paper++) {
            x.paper(paper, 0, 180);
        }
        x.set(0, 0);
        return x;
    }

    // ---- promise 10

    private static void pupilOfFirstAndLast() {
        Due.sentence("10: 0 its papers, 1 its extra time, 2 whether it needs a reader (1 or 0); NO_SUCH, BAD_VALUE");
        ExamHalls x = Schools.withPupils("a;b+1r;abcdef+100;f+99r");
        int[][] want = {{1, 0, 0}, {2, 1, 1}, {63, 100, 0}, {32, 99, 1}};
        for (int pupil = 0; pupil < 4; pupil++) {
            for (int what = 0; what < 3; what++) {
                Due.is("pupilOf(" + pupil + ", " + what + ")", x.pupilOf(pupil, what), want[pupil][what]);
            }
            Due.is("what 6", x.pupilOf(pupil, 6), BAD_VALUE);
            Due.is("what -1", x.pupilOf(pupil, -1), BAD_VALUE);
        }
        Due.is("pupil 4", x.pupilOf(4, 0), NO_SUCH);
        Due.is("pupil -1", x.pupilOf(-1, 5), NO_SUCH);
        Due.is("pupil 4, what 6", x.pupilOf(4, 6), NO_SUCH);
        Due.is("pupil 15 of 16", crowd(false).pupilOf(15, 1), 100);
        Due.is("pupil 16 of 16", crowd(false).pupilOf(16, 1), NO_SUCH);
    }

    private static void clashesOfAPupil() {
        Due.sentence("10: 3 pairs of its sittings that clash");
        Due.is("the most", crowd(false).pupilOf(15, 3), 15);
        ExamHalls x = Schools.withPupils("abcdef;a;abcdef+1");
        for (int paper = 0; paper < 6; paper++) {
            x.paper(paper, 2 * paper, 60);
        }
        Due.is("one ends when the next one begins", x.pupilOf(0, 3), 0);
        Due.is("one sitting", x.pupilOf(1, 3), 0);
        Due.is("each ends a minute too late", x.pupilOf(2, 3), 5);
        x.paper(5, 0, 180);
        Due.is("f with a, b and c", x.pupilOf(0, 3), 3);
        x.paper(5, 0, 30);
        Due.is("f with a", x.pupilOf(0, 3), 1);
        Due.is("of the other ones", x.pupilOf(1, 3), 0);
    }

    private static void papersWithoutAPlace() {
        Due.sentence("10: 4 papers of which its sitting has no place, as a set");
        ExamHalls x = crowd(false);
        Due.is("64 desks: a to d", x.pupilOf(0, 4), E + F);
        Due.is("64 desks: a to d", x.pupilOf(15, 4), E + F);
        for (int hall = 0; hall < 4; hall++) {
            x.open(hall, false);
        }
        Due.is("no halls", x.pupilOf(0, 4), ALL);
        Due.is("no halls", x.pupilOf(15, 4), ALL);
        x.change(15, D, 0, true);
        Due.is("one paper, in a room", x.pupilOf(15, 4), 0);
        x.set(1, 0);
        Due.is("one paper, no room", x.pupilOf(15, 4), D);
        ExamHalls y = crowd(true);
        y.set(1, 6);
        Due.is("a room for a", y.pupilOf(5, 4), ALL - A);
        Due.is("no room at all", y.pupilOf(6, 4), ALL);
    }

    private static void minutesOfAPupil() {
        Due.sentence("10: 5 the minutes of all its sittings, together");
        Due.is("the most", crowd(false).pupilOf(15, 5), 6 * 360);
        Due.is("the most, with a reader", crowd(true).pupilOf(0, 5), 6 * 360);
        ExamHalls x = Schools.withPupils("a;abc+1;f");
        x.paper(0, 0, 30);
        Due.is("the least", x.pupilOf(0, 5), 30);
        Due.is("30.3, 60.6 and 60.6, each rounded up", x.pupilOf(1, 5), 31 + 61 + 61);
        Due.is("of one that does not sit a", x.pupilOf(2, 5), 60);
        x.open(0, false);
        Due.is("without a place", x.pupilOf(0, 5), 30);
    }

    // ---- promise 11

    private static void pupilsOfAPaper() {
        Due.sentence("11: 0 its start, 1 its minutes, 2 pupils who sit it, as a set");
        ExamHalls x = crowd(false);
        x.paper(5, 19, 30);
        Due.is("start", x.paperOf(5, 0), 19);
        Due.is("minutes", x.paperOf(5, 1), 30);
        Due.is("start", x.paperOf(0, 0), 0);
        Due.is("minutes", x.paperOf(0, 1), 180);
        for (int paper = 0; paper < 6; paper++) {
            Due.is("all pupils", x.paperOf(paper, 2), 65535);
        }
        x.change(15, A, 0, true);
        Due.is("all but the last one", x.paperOf(5, 2), 32767);
        Due.is("with a reader too", x.paperOf(0, 2), 65535);
        Due.is("nobody", new ExamHalls().paperOf(5, 2), 0);
        Due.is("the first one", Schools.withPupils("f").paperOf(5, 2), 1);
    }

    private static void lastEndOfAPaper() {
        Due.sentence("11: 3 the minute at which the last one of its sittings ends (NONE without one)");
        ExamHalls x = Schools.withPupils("b+1;b+100;b");
        x.paper(1, 19, 180);
        Due.is("the latest of all", x.paperOf(1, 3), 930);
        Due.is("NONE without one", x.paperOf(0, 3), NONE);
        x.leave(1);
        Due.is("181.8 rounded up", x.paperOf(1, 3), 752);
        x.leave(0);
        Due.is("no extra time", x.paperOf(1, 3), 750);
        x.open(0, false);
        Due.is("without a place", x.paperOf(1, 3), 750);
        x.paper(1, 0, 30);
        Due.is("the earliest of all", x.paperOf(1, 3), 30);
        x.pupil(B, 10, true);
        Due.is("one with a reader", x.paperOf(1, 3), 33);
        x.set(1, 0);
        Due.is("one with a reader, without a room", x.paperOf(1, 3), 33);
        x.leave(1);
        x.leave(0);
        Due.is("NONE without one", x.paperOf(1, 3), NONE);
    }

    private static void sittingsWithoutAPlaceOfAPaper() {
        Due.sentence("11: 4 its sittings that have no place, how many");
        ExamHalls x = crowd(false);
        for (int paper = 0; paper < 6; paper++) {
            Due.is("64 desks", x.paperOf(paper, 4), paper < 4 ? 0 : 16);
        }
        x.hall(3, 1, 1);
        Due.is("one desk of the hall 3", x.paperOf(3, 4), 15);
        x.change(0, ALL, 0, true);
        // a to c leave a desk each, and d takes them: its 15 sittings have these 3 and the one of the hall 3.
        Due.is("the reader in a room", x.paperOf(0, 4), 0);
        Due.is("the reader has no second room", x.paperOf(1, 4), 1);
        Due.is("d", x.paperOf(3, 4), 1 + 15 - 4);
        Due.is("nobody", new ExamHalls().paperOf(0, 4), 0);
    }

    private static void hallsOfAPaper() {
        Due.sentence("11: 5 halls in which it is sat, as a set");
        ExamHalls x = crowd(false);
        for (int paper = 0; paper < 6; paper++) {
            Due.is("a hall each", x.paperOf(paper, 5), paper < 4 ? 1 << paper : 0);
        }
        x.set(0, 1);
        int[] spread = {1 + 2, 1 + 2, 4 + 8, 4 + 8, 0, 0};
        for (int paper = 0; paper < 6; paper++) {
            Due.is("two halls each", x.paperOf(paper, 5), spread[paper]);
        }
        ExamHalls y = Schools.withPupils(8, F, 0, false);
        for (int hall = 1; hall < 4; hall++) {
            y.open(hall, true);
        }
        Due.is("all halls", y.paperOf(5, 5), 15);
        y.leave(7);
        y.leave(6);
        Due.is("three of them", y.paperOf(5, 5), 7);
        Due.is("readers sit in no hall", Schools.withPupils("fr").paperOf(5, 5), 0);
        ExamHalls one = Schools.withPupils("f;f;f;f");
        one.hall(0, 1, 1);
        one.open(3, true);
        Due.is("the first one alone in the hall 0", one.paperOf(5, 5), 9);
        one.hall(0, 1, 4);
        one.hall(3, 1, 1);
        Due.is("the last one without a place", one.paperOf(5, 5), 9);
        one.leave(0);
        Due.is("the last one alone in the hall 3", one.paperOf(5, 5), 9);
        one.leave(0);
        Due.is("both in the hall 0", one.paperOf(5, 5), 1);
    }

    private static void paperOfErrors() {
        Due.sentence("11: NO_SUCH if there is no such paper; BAD_VALUE if what is out of range");
        ExamHalls x = Schools.withPupils("a");
        Due.is("paper 6", x.paperOf(6, 0), NO_SUCH);
        Due.is("paper -1", x.paperOf(-1, 5), NO_SUCH);
        Due.is("what 6", x.paperOf(5, 6), BAD_VALUE);
        Due.is("what -1", x.paperOf(0, -1), BAD_VALUE);
        Due.is("both", x.paperOf(6, 6), NO_SUCH);
        Due.is("both", x.paperOf(-1, -1), NO_SUCH);
    }

    // ---- promise 12

    private static void beginAndEndOfASitting() {
        Due.sentence("12: 0 the minute at which it begins, 1 the minute at which it ends");
        for (int start = 0; start <= 19; start++) {
            ExamHalls x = Schools.withPupils("e;e+100r");
            x.paper(4, start, 30);
            Due.is("begin", x.sitting(0, 4, 0), 30 * start);
            Due.is("end", x.sitting(0, 4, 1), 30 * start + 30);
            Due.is("begin, with extra time", x.sitting(1, 4, 0), 30 * start);
            Due.is("end, with extra time", x.sitting(1, 4, 1), 30 * start + 60);
            x.paper(4, start, 180);
            Due.is("end", x.sitting(0, 4, 1), 30 * start + 180);
            Due.is("end, with extra time", x.sitting(1, 4, 1), 30 * start + 360);
        }
    }

    private static void placeOfASitting() {
        Due.sentence("12: 2 its hall (NONE without a desk), 3 its desk (NONE likewise), 4 its room (NONE without"
                + " one)");
        ExamHalls x = Schools.withPupils(16, A, 0, false);
        x.hall(0, 1, 1);
        x.hall(3, 4, 4);
        x.open(3, true);
        x.set(0, 0);
        Due.is("the first hall", x.sitting(0, 0, 2), 0);
        Due.is("the first desk", x.sitting(0, 0, 3), 0);
        Due.is("the last hall", x.sitting(15, 0, 2), 3);
        Due.is("its desk", x.sitting(15, 0, 3), 14);
        x.open(0, false);
        Due.is("the last desk of all", x.sitting(15, 0, 3), 15);
        Due.is("no room", x.sitting(15, 0, 4), NONE);
        x.open(3, false);
        Due.is("no hall", x.sitting(15, 0, 2), NONE);
        Due.is("no desk", x.sitting(15, 0, 3), NONE);
        Due.is("no room", x.sitting(15, 0, 4), NONE);
        ExamHalls y = Schools.withPupils(7, F, 0, true);
        y.set(1, 6);
        Due.is("the first room", y.sitting(0, 5, 4), 0);
        Due.is("the last room", y.sitting(5, 5, 4), 5);
        Due.is("no room", y.sitting(6, 5, 4), NONE);
        Due.is("no hall", y.sitting(0, 5, 2), NONE);
        Due.is("no desk", y.sitting(0, 5, 3), NONE);
    }

    private static void clashesOfASitting() {
        Due.sentence("12: 5 other sittings of the pupil with which it clashes, as a set of papers");
        ExamHalls x = crowd(false);
        for (int paper = 0; paper < 6; paper++) {
            Due.is("all others, not itself", x.sitting(15, paper, 5), ALL - (1 << paper));
        }
        ExamHalls y = Schools.withPupils("af;abcdef");
        Due.is("with f alone", y.sitting(0, 0, 5), F);
        Due.is("with a alone", y.sitting(0, 5, 5), A);
        y.paper(5, 2, 30);
        Due.is("none", y.sitting(0, 0, 5), 0);
        y.paper(0, 0, 61);
        Due.is("a minute too long", y.sitting(0, 5, 5), A);
        Due.is("of the other pupil the same", y.sitting(1, 5, 5), A);
    }

    private static void errorsOfASitting() {
        Due.sentence("12: NO_SUCH if there is no such pupil or paper; BAD_VALUE; NOT_POSSIBLE if the pupil does not sit"
                + " it");
        ExamHalls x = Schools.withPupils("ac;f");
        for (int what = 0; what <= 5; what++) {
            for (int paper = 0; paper < 6; paper++) {
                if (paper != 0 && paper != 2) {
                    Due.is("a paper that it does not sit", x.sitting(0, paper, what), NOT_POSSIBLE);
                }
                if (paper != 5) {
                    Due.is("a paper that it does not sit", x.sitting(1, paper, what), NOT_POSSIBLE);
                }
            }
            Due.is("pupil 2", x.sitting(2, 0, what), NO_SUCH);
            Due.is("pupil -1", x.sitting(-1, 0, what), NO_SUCH);
            Due.is("paper 6", x.sitting(0, 6, what), NO_SUCH);
            Due.is("paper -1", x.sitting(0, -1, what), NO_SUCH);
        }
        Due.is("what 6, sat", x.sitting(1, 5, 6), BAD_VALUE);
        Due.is("what -1, sat", x.sitting(1, 5, -1), BAD_VALUE);
        Due.is("what 6, not sat", x.sitting(1, 0, 6), BAD_VALUE);
        Due.is("what -1, not sat", x.sitting(1, 0, -1), BAD_VALUE);
        Due.is("what 6, no pupil", x.sitting(2, 5, 6), NO_SUCH);
        Due.is("what 6, no paper", x.sitting(1, 6, 6), NO_SUCH);
    }

    // ---- promise 13

    private static void sizeOfAHall() {
        Due.sentence("13: 0 its rows, 1 its columns, 2 whether it is open (1 or 0); NO_SUCH, BAD_VALUE");
        ExamHalls x = new ExamHalls();
        for (int hall = 0; hall < 4; hall++) {
            x.hall(hall, 1, 4);
            Due.is("rows", x.hallOf(hall, 0), 1);
            Due.is("columns", x.hallOf(hall, 1), 4);
            x.hall(hall, 4, 1);
            Due.is("rows", x.hallOf(hall, 0), 4);
            Due.is("columns", x.hallOf(hall, 1), 1);
            Due.is("open", x.hallOf(hall, 2), hall == 0 ? 1 : 0);
            x.open(hall, hall != 0);
            Due.is("open", x.hallOf(hall, 2), hall == 0 ? 0 : 1);
            Due.is("what 5", x.hallOf(hall, 5), BAD_VALUE);
            Due.is("what -1", x.hallOf(hall, -1), BAD_VALUE);
        }
        Due.is("hall 4", x.hallOf(4, 0), NO_SUCH);
        Due.is("hall -1", x.hallOf(-1, 4), NO_SUCH);
        Due.is("hall 4, what 5", x.hallOf(4, 5), NO_SUCH);
    }

    private static void seatedInAHall() {
        Due.sentence("13: 3 sittings that are seated in it, how many");
        ExamHalls x = Schools.withPupils(16, ALL, 0, false);
        x.hall(0, 4, 4);
        x.set(0, 0);
        for (int paper = 0; paper < 6; paper++) {
            x.paper(paper, 3 * paper, 80);
        }
        Due.is("the most: all in one hall", x.hallOf(0, 3), 96);
        Due.is("at once", x.hallOf(0, 4), 16);
        Due.is("a closed one", x.hallOf(1, 3), 0);
        x.open(0, false);
        Due.is("closed", x.hallOf(0, 3), 0);
        Due.is("closed: at once", x.hallOf(0, 4), 0);
        x.open(3, true);
        Due.is("the hall 3", x.hallOf(3, 3), 24);
        ExamHalls y = Schools.withPupils("ar;br");
        Due.is("readers sit in no hall", y.hallOf(0, 3), 0);
        Due.is("readers sit in no hall", y.hallOf(0, 4), 0);
    }

    private static void mostDesksTaken() {
        Due.sentence("13: 4 the most desks that are taken in it at any minute");
        ExamHalls x = crowd(false);
        for (int hall = 0; hall < 4; hall++) {
            Due.is("the most", x.hallOf(hall, 4), 16);
        }
        x.set(0, 1);
        for (int hall = 0; hall < 4; hall++) {
            Due.is("spread, two papers", x.hallOf(hall, 4), 16);
        }
        for (int pupil = 0; pupil < 16; pupil++) {
            x.change(pupil, F, 0, false);
        }
        Due.is("spread, one paper", x.hallOf(0, 4), 8);
        Due.is("spread, one paper", x.hallOf(1, 4), 8);
        Due.is("nobody left", x.hallOf(2, 4), 0);
        ExamHalls y = Schools.withPupils("a");
        Due.is("one", y.hallOf(0, 4), 1);
        y.paper(0, 19, 30);
        Due.is("one at the end of the day", y.hallOf(0, 4), 1);
    }

    private static void mostDesksTakenWithEachPaper() {
        Due.sentence("13: 4 the most desks at any minute (also if it is one at which the first or the last paper"
                + " begins)");
        for (int paper = 0; paper < 6; paper++) {
            ExamHalls x = Schools.withPupils("abcdef;abcdef");
            x.set(0, 0);
            for (int other = 0; other < 6; other++) {
                x.paper(other, other == paper ? 1 : 3 * other + 2, 30);
            }
            // One sits this paper alone, the other one all others: at most two desks, only when they overlap.
            x.change(0, 63 - (1 << paper), 0, false);
            x.change(1, 1 << paper, 0, false);
            Due.is("one at a time", x.hallOf(0, 4), 1);
            int next = paper == 0 ? 1 : 0;
            x.paper(paper, 3 * next + 2, 60);
            Due.is("two when " + paper + " and " + next + " begin", x.hallOf(0, 4), 2);
            x.change(1, 1 << paper, 0, true);
            Due.is("one with a reader", x.count(9), 1);
            x.change(0, 63 - (1 << paper), 0, true);
            Due.is("two with a reader", x.count(9), 2);
            x.paper(paper, 19, 180);
            Due.is("one after the other", x.count(9), 1);
            x.paper(next, 18, 31);
            Due.is("two when " + paper + " begins", x.count(9), 2);
            x.change(0, 63 - (1 << paper), 0, false);
            x.change(1, 1 << paper, 0, false);
            Due.is("two when " + paper + " begins", x.hallOf(0, 4), 2);
            x.paper(next, 18, 30);
            Due.is("one after the other", x.hallOf(0, 4), 1);
        }
    }

    private static void mostDesksTakenNotTogether() {
        Due.sentence("13: at any minute (one that ends at a minute is not there any more)");
        ExamHalls x = Schools.withPupils("a;b;b;c");
        x.set(0, 0);
        x.set(2, 0);
        x.paper(1, 2, 60);
        x.paper(2, 4, 60);
        Due.is("b after a, c after b", x.hallOf(0, 4), 2);
        Due.is("seated", x.hallOf(0, 3), 4);
        x.paper(0, 0, 61);
        Due.is("a until 61", x.hallOf(0, 4), 3);
        x.paper(2, 3, 30);
        Due.is("c with b", x.hallOf(0, 4), 3);
        x.paper(0, 0, 91);
        Due.is("all together for a minute", x.hallOf(0, 4), 4);
        x.paper(0, 0, 90);
        Due.is("a until 90, when c begins", x.hallOf(0, 4), 3);
    }

    // ---- promise 14

    private static void countsOfNobody() {
        Due.sentence("14: each number without any pupil (10: 0 without any)");
        ExamHalls x = new ExamHalls();
        x.open(0, false);
        int[] want = {1, 1, 10, 0, 0, 0, 0, 0, 0, 0, 0, 0, 1};
        for (int what = 0; what <= 12; what++) {
            Due.is("count(" + what + ")", x.count(what), want[what]);
        }
        x.pupil(ALL, 100, true);
        x.leave(0);
        for (int what = 3; what <= 11; what++) {
            Due.is("count(" + what + ") when all have left", x.count(what), 0);
        }
    }

    private static void countsOfTheMost() {
        Due.sentence("14: 3 pupils, 4 sittings, 5 those that have no place, 6 pairs of sittings that clash, at their"
                + " most");
        ExamHalls x = crowd(false);
        x.set(1, 6);
        x.set(2, 60);
        int[] want = {0, 6, 60, 16, 96, 32, 16 * 15, 15, 64, 0, 360, 0, 6};
        for (int what = 0; what <= 12; what++) {
            Due.is("count(" + what + ")", x.count(what), want[what]);
        }
        for (int hall = 0; hall < 4; hall++) {
            x.open(hall, false);
        }
        Due.is("no halls: all without a place", x.count(5), 96);
        Due.is("no halls: clashes", x.count(6), 240);
        ExamHalls readers = crowd(true);
        Due.is("one room: all but one", readers.count(5), 95);
        readers.set(1, 0);
        Due.is("no rooms: all", readers.count(5), 96);
        ExamHalls one = Schools.withPupils("a");
        int[] least = {1, 1, 10, 1, 1, 0, 0, 1, 4, 0, 60, 0, 1};
        for (int what = 0; what <= 12; what++) {
            Due.is("count(" + what + ") of one", one.count(what), least[what]);
        }
        Due.is("one pair", Schools.withPupils("ab").count(6), 1);
        Due.is("sittings of two pupils are no pair", Schools.withPupils("a;a;b").count(6), 0);
    }

    private static void countOfHalls() {
        Due.sentence("14: 7 open halls, as a set, 8 desks of all open halls");
        int[][] sizes = {{1, 1}, {1, 2}, {2, 4}, {4, 4}};
        for (int set = 0; set < 16; set++) {
            ExamHalls x = new ExamHalls();
            int desks = 0;
            for (int hall = 0; hall < 4; hall++) {
                x.hall(hall, sizes[hall][0], sizes[hall][1]);
                x.open(hall, (set >> hall & 1) == 1);
                desks += (set >> hall & 1) == 1 ? sizes[hall][0] * sizes[hall][1] : 0;
            }
            Due.is("halls", x.count(7), set);
            Due.is("desks of the halls " + set, x.count(8), desks);
        }
    }

    private static void countOfReaders() {
        Due.sentence("14: 9 the most sittings with readers at any minute, with rooms or without");
        ExamHalls x = crowd(true);
        Due.is("the most, with a room", x.count(9), 96);
        x.set(1, 6);
        Due.is("with all rooms", x.count(9), 96);
        x.set(1, 0);
        Due.is("without rooms", x.count(9), 96);
        for (int paper = 0; paper < 6; paper++) {
            x.paper(paper, 3 * paper, 45);
        }
        Due.is("one paper at a time", x.count(9), 16);
        Due.is("no readers", crowd(false).count(9), 0);
        Due.is("one", Schools.withPupils("f;fr;f").count(9), 1);
        Due.is("two sittings of one pupil", Schools.withPupils("efr").count(9), 2);
    }

    private static void countOfReadersAtTheirEdges() {
        Due.sentence("14: at any minute (one that ends at a minute needs no reader any more)");
        ExamHalls x = Schools.withPupils("ar;br;br;cr");
        x.paper(1, 2, 60);
        x.paper(2, 4, 60);
        Due.is("one after the other", x.count(9), 2);
        x.paper(0, 0, 61);
        Due.is("a until 61", x.count(9), 3);
        x.paper(0, 0, 121);
        Due.is("a with b, and with c", x.count(9), 3);
        x.paper(2, 3, 60);
        Due.is("all", x.count(9), 4);
        x.paper(0, 0, 90);
        Due.is("a until 90, when c begins", x.count(9), 3);
        x.change(0, A, 1, true);
        Due.is("a minute more", x.count(9), 4);
        x.change(0, A, 1, false);
        Due.is("a without a reader", x.count(9), 3);
    }

    private static void countOfTheLastEnd() {
        Due.sentence("14: 10 the minute at which the last sitting ends (0 without any)");
        ExamHalls x = Schools.withPupils("a+100;f");
        x.paper(0, 0, 30);
        x.paper(5, 0, 30);
        Due.is("60", x.count(10), 60);
        x.change(0, A, 0, false);
        Due.is("the least", x.count(10), 30);
        x.paper(3, 19, 180);
        Due.is("a paper that nobody sits", x.count(10), 30);
        x.change(0, D, 100, false);
        Due.is("the most", x.count(10), 930);
        x.open(0, false);
        Due.is("without a place", x.count(10), 930);
        x.leave(0);
        Due.is("the other one", x.count(10), 30);
        x.leave(0);
        Due.is("0 without any", x.count(10), 0);
    }

    private static void countOfThePad() {
        Due.sentence("14: 11 the length of the pad");
        ExamHalls x = new ExamHalls();
        for (int length = 1; length <= 60; length++) {
            x.put('~');
            Due.is("length", x.count(11), length);
        }
        x.put('~');
        Due.is("no more than 60", x.count(11), 60);
        x.wipe();
        Due.is("wiped", x.count(11), 0);
    }

    private static void countOfTheHistory() {
        Due.sentence("14: 12 how many changes can be undone");
        ExamHalls x = new ExamHalls();
        for (int change = 0; change <= 8; change++) {
            Due.is("after " + change, x.count(12), Math.min(change, 6));
            x.set(2, change);
        }
        for (int left = 5; left >= 0; left--) {
            x.undo();
            Due.is("left", x.count(12), left);
        }
        x.undo();
        Due.is("none left", x.count(12), 0);
    }

    private static void countErrors() {
        Due.sentence("14: BAD_VALUE if what is out of range");
        ExamHalls x = Schools.withPupils("a");
        Due.is("count(-1)", x.count(-1), BAD_VALUE);
        Due.is("count(13)", x.count(13), BAD_VALUE);
        Due.is("count(least)", x.count(Integer.MIN_VALUE), BAD_VALUE);
        Due.is("count(most)", x.count(Integer.MAX_VALUE), BAD_VALUE);
    }

    // ---- promise 15

    private static void atEveryDesk() {
        Due.sentence("15: Returns 6 times the pupil and the paper, together");
        for (int paper = 0; paper < 6; paper++) {
            ExamHalls x = Schools.withPupils(16, 1 << paper, 0, false);
            x.hall(0, 4, 4);
            x.set(0, 0);
            for (int desk = 0; desk < 16; desk++) {
                Due.is("at " + desk, x.at(0, desk, 59), 6 * desk + paper);
            }
        }
        Due.is("0: the first pupil's paper a", Schools.withPupils("a").at(0, 0, 0), 0);
        Due.is("5: its paper f", Schools.withPupils("f").at(0, 0, 0), 5);
        ExamHalls all = crowd(false);
        for (int hall = 0; hall < 4; hall++) {
            Due.is("the first desk of hall " + hall, all.at(hall, 0, 0), hall);
            Due.is("the last desk of hall " + hall, all.at(hall, 15, 0), 90 + hall);
        }
    }

    private static void atTheEdgesOfASitting() {
        Due.sentence("15: Tells who sits at a desk at a minute (0 or more); NONE if nobody does");
        ExamHalls x = Schools.withPupils("b");
        Due.is("minute 0", x.at(0, 0, 0), 1);
        Due.is("the last one", x.at(0, 0, 59), 1);
        Due.is("its end", x.at(0, 0, 60), NONE);
        x.paper(1, 19, 180);
        x.change(0, B, 100, false);
        Due.is("minute 0", x.at(0, 0, 0), NONE);
        Due.is("ahead of it", x.at(0, 0, 569), NONE);
        Due.is("its begin", x.at(0, 0, 570), 1);
        Due.is("the last one of all", x.at(0, 0, 929), 1);
        Due.is("its end", x.at(0, 0, 930), NONE);
        Due.is("the greatest number", x.at(0, 0, Integer.MAX_VALUE), NONE);
        Due.is("the next desk", x.at(0, 1, 570), NONE);
        Due.is("the last desk", x.at(0, 3, 570), NONE);
        Due.is("another hall", x.at(3, 0, 570), NONE);
        x.change(0, B, 100, true);
        Due.is("with a reader: at no desk", x.at(0, 0, 570), NONE);
    }

    private static void atOneAfterTheOther() {
        Due.sentence("15: at a minute (one after the other at the same desk)");
        ExamHalls x = Schools.withPupils("c;ab");
        x.hall(0, 1, 1);
        x.set(2, 0);
        x.paper(0, 4, 30);
        x.paper(1, 2, 60);
        Due.is("c", x.at(0, 0, 0), 2);
        Due.is("c", x.at(0, 0, 59), 2);
        Due.is("b", x.at(0, 0, 60), 7);
        Due.is("b", x.at(0, 0, 119), 7);
        Due.is("a", x.at(0, 0, 120), 6);
        Due.is("a", x.at(0, 0, 149), 6);
        Due.is("nobody", x.at(0, 0, 150), NONE);
        x.set(2, 1);
        Due.is("b has no place", x.at(0, 0, 60), NONE);
        Due.is("a has", x.at(0, 0, 120), 6);
    }

    private static void atErrors() {
        Due.sentence("15: NO_SUCH if there is no such hall or desk; BAD_VALUE if minute is below 0; NONE if nobody"
                + " does");
        ExamHalls x = Schools.withPupils("a");
        int[][] sizes = {{1, 1}, {1, 4}, {4, 3}, {4, 4}};
        for (int hall = 0; hall < 4; hall++) {
            int desks = sizes[hall][0] * sizes[hall][1];
            x.hall(hall, sizes[hall][0], sizes[hall][1]);
            Due.is("desk -1", x.at(hall, -1, 0), NO_SUCH);
            Due.is("behind the last desk", x.at(hall, desks, 0), NO_SUCH);
            Due.is("the last desk", x.at(hall, desks - 1, 60), NONE);
            Due.is("minute -1", x.at(hall, desks - 1, -1), BAD_VALUE);
            Due.is("the least minute", x.at(hall, 0, Integer.MIN_VALUE), BAD_VALUE);
            Due.is("behind the last desk, minute -1", x.at(hall, desks, -1), NO_SUCH);
            Due.is("desk -1, minute -1", x.at(hall, -1, -1), NO_SUCH);
        }
        Due.is("hall 4", x.at(4, 0, 0), NO_SUCH);
        Due.is("hall -1", x.at(-1, 0, 0), NO_SUCH);
        Due.is("hall 4, minute -1", x.at(4, 0, -1), NO_SUCH);
    }

    private static void lookingChangesNothing() {
        Due.sentence("10 to 15: what there is; nothing changes");
        ExamHalls x = Schools.withPupils("abc+7;cr;d");
        x.save(0);
        x.set(2, 1);
        Schools.type(x, "e");
        String before = Schools.view(x);
        Due.isSame("looked at twice", Schools.view(x), before);
        Due.is("history", x.count(12), 2);
    }
}
