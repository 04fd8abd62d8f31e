/** Promises 16 to 19 at their edges, a test for each sentence. RefusalsTest has the sentences on errors once more. */
public final class WhatIfEdgesTest {
    private static final int NO_SUCH = -1, BAD_VALUE = -2, NONE = -6;
    private static final int A = Schools.A, B = Schools.B, C = Schools.C, D = Schools.D;

    private WhatIfEdgesTest() {
    }

    public static void main(String[] args) {
        ifStartClashes();
        ifStartWithoutAPlace();
        ifStartLastEnd();
        ifStartAsItIs();
        ifStartErrors();
        bestStartIsEachOfTheTwenty();
        bestStartOfTheFewestClashes();
        bestStartOfTheFewestWithoutAPlace();
        clashesComeAheadOfPlaces();
        bestStartOfTheLeast();
        bestStartErrors();
        bestHallsIsEachOfTheSixteen();
        bestHallsOfTheFewestWithoutAPlace();
        bestHallsOfTheFewestDesks();
        bestHallsOfTheLeastSet();
        bestHallsAsIsNeeded();
        bestHallsErrors();
        leastRoomsIsEachOfTheSeven();
        leastRoomsNone();
        leastRoomsOfReadersAlone();
        leastRoomsAndTheGap();
        nothingChanges();
        Due.end();
    }

    // ---- promise 16

    private static void ifStartClashes() {
        Due.sentence("16: 0 clashes of all pupils");
        ExamHalls x = Schools.withPupils("ab;ab+100;abc");
        x.paper(1, 10, 60);
        // b is from 300 to 360, or to 420; a has 60 or 120 minutes. c is from 0 to 60.
        for (int start = 0; start <= 19; start++) {
            int ofTheFirst = start == 9 || start == 10 || start == 11 ? 1 : 0;
            int ofTheNext = start >= 7 && start <= 13 ? 1 : 0;
            int withC = start <= 1 ? 1 : 0;
            Due.is("a at " + start, x.ifStart(0, start, 0), 2 * ofTheFirst + ofTheNext + withC);
        }
        ExamHalls most = Schools.withPupils(16, 63, 100, false);
        Due.is("the most", most.ifStart(5, 0, 0), 240);
        Due.is("f behind all others", most.ifStart(5, 19, 0), 160);
        Due.is("nobody", new ExamHalls().ifStart(0, 19, 0), 0);
    }

    private static void ifStartWithoutAPlace() {
        Due.sentence("16: 1 sittings that would have no place");
        ExamHalls x = Schools.withPupils("a;b;ar;br");
        x.hall(0, 1, 1);
        x.paper(1, 10, 60);
        // b begins at 300: a has to end by 290, or begins behind the gap after 360; rooms likewise.
        for (int start = 0; start <= 19; start++) {
            boolean isApart = start <= 7 || start >= 13;
            Due.is("a at " + start, x.ifStart(0, start, 1), isApart ? 0 : 2);
        }
        ExamHalls all = Schools.withPupils(16, 63, 0, false);
        all.open(0, false);
        Due.is("all", all.ifStart(0, 0, 1), 96);
        Due.is("nobody", new ExamHalls().ifStart(5, 0, 1), 0);
    }

    private static void ifStartLastEnd() {
        Due.sentence("16: 2 the minute at which the last sitting would end");
        ExamHalls x = Schools.withPupils("a+100;b");
        x.paper(0, 7, 180);
        x.paper(1, 10, 60);
        for (int start = 0; start <= 19; start++) {
            Due.is("a at " + start, x.ifStart(0, start, 2), Math.max(360, 30 * start + 360));
        }
        Due.is("b at 19: b is the last", x.ifStart(1, 19, 2), 630);
        Due.is("b at 0: a is the last", x.ifStart(1, 0, 2), 570);
        Due.is("f, which nobody sits", x.ifStart(5, 19, 2), 570);
        x.open(0, false);
        Due.is("without a place", x.ifStart(0, 19, 2), 930);
        Due.is("nobody", new ExamHalls().ifStart(0, 19, 2), 0);
    }

    private static void ifStartAsItIs() {
        Due.sentence("16: Tells what another start of a paper would bring (the start that it has brings what there"
                + " is)");
        ExamHalls x = Schools.withPupils("ab;bc+50;cdr;efr;a;a;a");
        for (int paper = 0; paper < 6; paper++) {
            x.paper(paper, 2 * paper, 45 + 10 * paper);
        }
        for (int paper = 0; paper < 6; paper++) {
            Due.is("clashes", x.ifStart(paper, 2 * paper, 0), x.count(6));
            Due.is("without a place", x.ifStart(paper, 2 * paper, 1), x.count(5));
            Due.is("last end", x.ifStart(paper, 2 * paper, 2), x.count(10));
        }
        for (int paper = 0; paper < 6; paper++) {
            for (int start = 0; start <= 19; start += 19) {
                int clashes = x.ifStart(paper, start, 0);
                int withoutAPlace = x.ifStart(paper, start, 1);
                int lastEnd = x.ifStart(paper, start, 2);
                x.paper(paper, start, 45 + 10 * paper);
                Due.is("clashes come true", x.count(6), clashes);
                Due.is("without a place comes true", x.count(5), withoutAPlace);
                Due.is("the last end comes true", x.count(10), lastEnd);
                x.undo();
            }
        }
    }

    private static void ifStartErrors() {
        Due.sentence("16: NO_SUCH if there is no such paper; BAD_VALUE if another argument is out of range");
        ExamHalls x = Schools.withPupils("a");
        for (int what = 0; what <= 2; what++) {
            Due.is("start -1", x.ifStart(0, -1, what), BAD_VALUE);
            Due.is("start 20", x.ifStart(5, 20, what), BAD_VALUE);
            Due.is("paper -1", x.ifStart(-1, 0, what), NO_SUCH);
            Due.is("paper 6", x.ifStart(6, 19, what), NO_SUCH);
        }
        Due.is("what -1", x.ifStart(0, 0, -1), BAD_VALUE);
        Due.is("what 3", x.ifStart(5, 19, 3), BAD_VALUE);
        Due.is("all three", x.ifStart(6, 20, 3), NO_SUCH);
        Due.is("paper and what", x.ifStart(-1, 0, 3), NO_SUCH);
    }

    // ---- promise 17

    /** a and c are sat from 0 to 30 times the start, without a break, by a pupil who sits b, too. */
    private static ExamHalls busyUntil(int start) {
        ExamHalls x = Schools.withPupils("abc+100");
        int minutesOfA = Math.min(180, Math.max(30, 15 * start));
        x.paper(0, 0, minutesOfA);
        if (start <= 12) {
            x.paper(2, 0, 30);
        } else if (start == 13) {
            x.paper(2, 11, 30);
        } else {
            x.paper(2, 12, 15 * (start - 12));
        }
        return x;
    }

    private static void bestStartIsEachOfTheTwenty() {
        Due.sentence("17: Finds the start of a paper with the fewest clashes. Returns the start");
        for (int start = 2; start <= 19; start++) {
            ExamHalls x = busyUntil(start);
            Due.is("busy until " + 30 * start, Math.max(x.sitting(0, 0, 1), x.sitting(0, 2, 1)), 30 * start);
            Due.is("busy until " + 30 * start, x.bestStart(1), start);
            Due.is("no clash of b then; a and c clash up to 13", x.ifStart(1, start, 0), start <= 13 ? 1 : 0);
            x.paper(1, 19, 30);
            Due.is("busy until " + 30 * start + ", where b is now does not matter", x.bestStart(1), start);
        }
        ExamHalls one = Schools.withPupils("ab");
        one.paper(0, 0, 30);
        Due.is("1", one.bestStart(1), 1);
        one.paper(0, 2, 60);
        Due.is("0", one.bestStart(1), 0);
    }

    private static void bestStartOfTheFewestClashes() {
        Due.sentence("17: with the fewest clashes (of all pupils; never none)");
        // a and c together fill the day: b clashes with a for two pupils, with c for one.
        ExamHalls x = Schools.withPupils("abc+100;ab+100;de");
        x.set(2, 0);
        x.paper(0, 0, 180);
        x.paper(2, 12, 180);
        x.paper(1, 0, 60);
        Due.is("a clash of each at 0", x.ifStart(1, 0, 0), 3);
        Due.is("with a and c at 330", x.ifStart(1, 11, 0), 4);
        Due.is("with c alone at 360", x.ifStart(1, 12, 0), 2);
        Due.is("from 360 on", x.bestStart(1), 12);
        x.change(2, B + C, 100, false);
        Due.is("as many from 360 on now", x.ifStart(1, 12, 0), 2);
        Due.is("and at 0 as many", x.ifStart(1, 0, 0), 2);
        Due.is("of several the least", x.bestStart(1), 0);
    }

    private static void bestStartOfTheFewestWithoutAPlace() {
        Due.sentence("17: of several the one with the fewest sittings without a place");
        for (int gap = 0; gap <= 60; gap += 30) {
            ExamHalls x = Schools.withPupils("a;b");
            x.hall(0, 1, 1);
            x.set(2, gap);
            Due.is("gap " + gap, x.bestStart(1), 2 + gap / 30);
            Due.is("no clashes anywhere", x.ifStart(1, 0, 0), 0);
            Due.is("one without a place at 0", x.ifStart(1, 0, 1), 1);
            x.paper(0, 10, 60);
            Due.is("gap " + gap + ", ahead of a", x.bestStart(1), 0);
        }
    }

    private static void clashesComeAheadOfPlaces() {
        Due.sentence("17: with the fewest clashes; of several (of these alone) the one with the fewest without a"
                + " place");
        // a, c and d, with the gap, take both desks from 180 on: b has one at 0 alone, where it clashes with a.
        ExamHalls x = Schools.withPupils("ab;c+100;d+100");
        x.hall(0, 1, 2);
        x.set(2, 60);
        x.paper(0, 0, 180);
        x.paper(2, 6, 180);
        x.paper(3, 8, 180);
        Due.is("a clash at 0", x.ifStart(1, 0, 0), 1);
        Due.is("all have a place at 0", x.ifStart(1, 0, 1), 0);
        for (int start = 6; start <= 19; start++) {
            Due.is("no clash at " + start, x.ifStart(1, start, 0), 0);
            Due.is("one without a place at " + start, x.ifStart(1, start, 1), 1);
        }
        Due.is("the first one without a clash", x.bestStart(1), 6);
    }

    private static void bestStartOfTheLeast() {
        Due.sentence("17: of these the least");
        ExamHalls x = new ExamHalls();
        for (int paper = 0; paper < 6; paper++) {
            x.paper(paper, 19, 180);
            Due.is("nobody sits it", x.bestStart(paper), 0);
        }
        ExamHalls closed = Schools.withPupils("a;a;b");
        closed.open(0, false);
        Due.is("nobody has a place anywhere", closed.bestStart(0), 0);
        ExamHalls all = Schools.withPupils("ab");
        all.paper(0, 1, 60);
        all.paper(1, 19, 30);
        Due.is("b fits ahead of a", all.bestStart(1), 0);
        all.paper(1, 19, 31);
        Due.is("b does not", all.bestStart(1), 3);
    }

    private static void bestStartErrors() {
        Due.sentence("17: NO_SUCH if there is no such paper");
        ExamHalls x = Schools.withPupils("f");
        Due.is("paper 5", x.bestStart(5), 0);
        Due.is("paper 6", x.bestStart(6), NO_SUCH);
        Due.is("paper -1", x.bestStart(-1), NO_SUCH);
    }

    // ---- promise 18

    private static void bestHallsIsEachOfTheSixteen() {
        Due.sentence("18: Finds the set of open halls with which the fewest sittings have no place; 0 the set, 1 how"
                + " many");
        for (int set = 0; set < 16; set++) {
            ExamHalls x = Schools.withPupils(Integer.bitCount(set), A, 0, false);
            for (int hall = 0; hall < 4; hall++) {
                int side = (set >> hall & 1) == 1 ? 1 : 4;
                x.hall(hall, side, side);
            }
            Due.is("the halls of one desk", x.bestHalls(0), set);
            Due.is("all have a place", x.bestHalls(1), 0);
        }
    }

    private static void bestHallsOfTheFewestWithoutAPlace() {
        Due.sentence("18: the fewest sittings have no place (never none)");
        ExamHalls x = Schools.withPupils(16, 63, 0, false);
        Due.is("all halls", x.bestHalls(0), 15);
        Due.is("96 sittings at 16 desks", x.bestHalls(1), 80);
        x.hall(3, 4, 4);
        Due.is("28 desks", x.bestHalls(1), 68);
        ExamHalls readers = Schools.withPupils(16, 63, 0, true);
        Due.is("no hall helps readers", readers.bestHalls(0), 0);
        Due.is("one of them has the room", readers.bestHalls(1), 95);
        readers.set(1, 0);
        Due.is("no room", readers.bestHalls(1), 96);
        Due.is("nobody", new ExamHalls().bestHalls(0), 0);
        Due.is("nobody", new ExamHalls().bestHalls(1), 0);
    }

    private static void bestHallsOfTheFewestDesks() {
        Due.sentence("18: of several the one with the fewest desks");
        ExamHalls x = Schools.withPupils(4, A, 0, false);
        x.set(0, 0);
        int[][] sizes = {{4, 4}, {3, 4}, {1, 4}, {1, 1}};
        for (int hall = 0; hall < 4; hall++) {
            x.hall(hall, sizes[hall][0], sizes[hall][1]);
        }
        Due.is("the hall with 4 desks", x.bestHalls(0), 4);
        x.pupil(A, 0, false);
        Due.is("4 desks and 1", x.bestHalls(0), 4 + 8);
        x.pupil(A, 0, false);
        Due.is("12 desks, not 12 and 1", x.bestHalls(0), 2);
        for (int pupil = 6; pupil < 13; pupil++) {
            x.pupil(A, 0, false);
        }
        Due.is("12 desks and 1", x.bestHalls(0), 2 + 8);
        x.pupil(A, 0, false);
        Due.is("14: 16 desks, whether 12 and 4, or 16: the least set", x.bestHalls(0), 1);
        Due.is("all have a place", x.bestHalls(1), 0);
    }

    private static void bestHallsOfTheLeastSet() {
        Due.sentence("18: of these the least set");
        ExamHalls x = Schools.withPupils("a");
        Due.is("one of four that are the same", x.bestHalls(0), 1);
        x.pupil(A, 0, false);
        x.pupil(A, 0, false);
        Due.is("two of them", x.bestHalls(0), 3);
        ExamHalls y = Schools.withPupils("a;b");
        y.hall(0, 1, 1);
        y.hall(1, 1, 1);
        y.hall(2, 1, 2);
        Due.is("1 and 2 are less than 4", y.bestHalls(0), 3);
        y.hall(0, 1, 2);
        y.hall(2, 1, 1);
        Due.is("1 is less than 2 and 4", y.bestHalls(0), 1);
        y.hall(0, 2, 2);
        y.hall(3, 2, 1);
        Due.is("2 and 4 are less than 8", y.bestHalls(0), 6);
    }

    private static void bestHallsAsIsNeeded() {
        Due.sentence("18: (halls as they are, open or closed as is needed)");
        for (int set = 0; set < 16; set++) {
            ExamHalls x = Schools.withPupils("a;a;a");
            for (int hall = 0; hall < 4; hall++) {
                x.open(hall, (set >> hall & 1) == 1);
            }
            x.hall(2, 1, 4);
            x.hall(3, 1, 3);
            Due.is("halls " + set + " are open now", x.bestHalls(0), 9);
            Due.is("halls " + set + " are open now", x.bestHalls(1), 0);
            Due.is("they still are", x.count(7), set);
        }
    }

    private static void bestHallsErrors() {
        Due.sentence("18: BAD_VALUE if what is neither 0 nor 1");
        ExamHalls x = Schools.withPupils("a");
        Due.is("0", x.bestHalls(0), 1);
        Due.is("1", x.bestHalls(1), 0);
        Due.is("2", x.bestHalls(2), BAD_VALUE);
        Due.is("-1", x.bestHalls(-1), BAD_VALUE);
    }

    // ---- promise 19

    private static void leastRoomsIsEachOfTheSeven() {
        Due.sentence("19: Finds the least ROOMS. Returns the rooms, 0 to 6");
        for (int readers = 0; readers <= 6; readers++) {
            for (int rooms = 0; rooms <= 6; rooms += 3) {
                ExamHalls x = Schools.withPupils(readers, D, 0, true);
                x.pupil(D, 0, false);
                x.set(1, rooms);
                Due.is(readers + " readers at once", x.leastRooms(), readers);
                Due.is("rooms as they were", x.count(1), rooms);
            }
        }
        Due.is("six sittings of one pupil", Schools.withPupils(1, 63, 100, true).leastRooms(), 6);
        Due.is("nobody", new ExamHalls().leastRooms(), 0);
    }

    private static void leastRoomsNone() {
        Due.sentence("19: NONE if there is none");
        ExamHalls x = Schools.withPupils(7, A, 0, true);
        Due.is("7 at once", x.leastRooms(), NONE);
        x.set(1, 6);
        Due.is("7 at once, 6 rooms", x.leastRooms(), NONE);
        x.change(6, A, 0, false);
        Due.is("6 at once", x.leastRooms(), 6);
        x.change(6, B, 0, true);
        Due.is("7 at once, of two papers", x.leastRooms(), NONE);
        x.paper(1, 19, 60);
        Due.is("one of them later", x.leastRooms(), 6);
        Due.is("the most", Schools.withPupils(16, 63, 100, true).leastRooms(), NONE);
    }

    private static void leastRoomsOfReadersAlone() {
        Due.sentence("19: with which no sitting with a reader has no place (others do not matter)");
        ExamHalls x = Schools.withPupils("a;a;a;a;br;br");
        x.open(0, false);
        Due.is("the others have no place", x.leastRooms(), 2);
        x.leave(5);
        x.leave(4);
        Due.is("no readers", x.leastRooms(), 0);
        Due.is("still without a place", x.count(5), 4);
    }

    private static void leastRoomsAndTheGap() {
        Due.sentence("19: the least ROOMS with which no sitting with a reader has no place (rooms are taken again)");
        ExamHalls x = Schools.withPupils("abcr;ar");
        x.paper(1, 2, 60);
        x.paper(2, 4, 60);
        Due.is("gap 10: b in a third room, c after a", x.leastRooms(), 3);
        x.set(2, 0);
        Due.is("gap 0", x.leastRooms(), 2);
        x.paper(1, 2, 61);
        Due.is("b a minute longer: c after the other a", x.leastRooms(), 2);
        x.set(2, 60);
        Due.is("gap 60: b in a third room, c after a", x.leastRooms(), 3);
        x.paper(0, 0, 61);
        Due.is("a a minute longer: c in a fourth one", x.leastRooms(), 4);
    }

    private static void nothingChanges() {
        Due.sentence("16 to 19: what if; nothing changes");
        ExamHalls x = Schools.withPupils("abc+7;cr;d;a;a;a");
        x.save(1);
        x.paper(2, 1, 90);
        Schools.type(x, "e");
        String before = Schools.view(x);
        for (int paper = 0; paper < 6; paper++) {
            for (int what = 0; what <= 2; what++) {
                x.ifStart(paper, 19, what);
            }
            x.bestStart(paper);
        }
        x.bestHalls(0);
        x.bestHalls(1);
        x.leastRooms();
        Due.isSame("looked at again", Schools.view(x), before);
        Due.is("undo of the latest change", x.undo(), 1);
        Due.is("it was the one of paper c", x.paperOf(2, 0), 0);
    }
}
