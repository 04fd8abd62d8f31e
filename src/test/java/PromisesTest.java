/** Each promise by itself: ordinary inputs, the edges that the document names, and wrong inputs. */
public final class PromisesTest {
    private static final int NO_SUCH = -1, BAD_VALUE = -2, BAD_TEXT = -3, TOO_MANY = -4, NOT_POSSIBLE = -5, NONE = -6;
    private static final int A = 1, B = 2, C = 4, D = 8, E = 16, F = 32;

    private PromisesTest() {
    }

    public static void main(String[] args) {
        newObject();
        set();
        paper();
        pupil();
        read();
        change();
        leave();
        hall();
        open();
        pupilOf();
        paperOf();
        sitting();
        sittingsAtDesks();
        sittingsAtTheEdgeOfAGap();
        sittingsInRooms();
        sittingsInTheirOrder();
        hallOf();
        count();
        at();
        ifStart();
        bestStart();
        bestHalls();
        leastRooms();
        put();
        wipe();
        fault();
        undo();
        undoOfEachChange();
        save();
        restore();
        errorsChangeNothing();
        Due.end();
    }

    private static void due(String call, long got, long want) {
        Due.is(call, got, want);
    }

    /** Everything that can be looked at, but the pad and the history, as one number. */
    private static long picture(ExamHalls x) {
        long sum = 17;
        for (int what = 0; what <= 10; what++) {
            sum = 31 * sum + x.count(what);
        }
        for (int i = 0; i < 6; i++) {
            sum = 31 * sum + x.paperOf(i, 0);
            sum = 31 * sum + x.paperOf(i, 1);
        }
        for (int i = 0; i < 4; i++) {
            for (int what = 0; what <= 3; what++) {
                sum = 31 * sum + x.hallOf(i, what);
            }
        }
        for (int i = 0; i < x.count(3); i++) {
            for (int what = 0; what <= 2; what++) {
                sum = 31 * sum + x.pupilOf(i, what);
            }
        }
        return sum;
    }

    // ---- promise 1

    private static void newObject() {
        ExamHalls x = new ExamHalls();
        int[] counts = {1, 1, 10, 0, 0, 0, 0, 1, 4, 0, 0, 0, 0};
        for (int what = 0; what < counts.length; what++) {
            due("new: count(" + what + ")", x.count(what), counts[what]);
        }
        for (int paper = 0; paper < 6; paper++) {
            due("new: start", x.paperOf(paper, 0), 0);
            due("new: minutes", x.paperOf(paper, 1), 60);
            due("new: pupils", x.paperOf(paper, 2), 0);
        }
        for (int hall = 0; hall < 4; hall++) {
            due("new: rows", x.hallOf(hall, 0), 2);
            due("new: columns", x.hallOf(hall, 1), 2);
            due("new: open", x.hallOf(hall, 2), hall == 0 ? 1 : 0);
            due("new: seated", x.hallOf(hall, 3), 0);
            due("new: most at once", x.hallOf(hall, 4), 0);
            due("new: at", x.at(hall, 0, 0), NONE);
        }
        due("new: undo", x.undo(), NOT_POSSIBLE);
        due("new: restore(0)", x.restore(0), NOT_POSSIBLE);
        due("new: restore(1)", x.restore(1), NOT_POSSIBLE);
        ExamHalls other = new ExamHalls();
        other.pupil(A, 0, false);
        other.put(Schools.word("a"));
        due("objects share nothing: pupils", x.count(3), 0);
        due("objects share nothing: pad", x.count(11), 0);
    }

    // ---- promise 2

    private static void set() {
        ExamHalls x = new ExamHalls();
        int[] first = {1, 1, 10};
        int[] highest = {1, 6, 60};
        for (int setting = 0; setting < 3; setting++) {
            due("set to 0", x.set(setting, 0), first[setting]);
            due("set to the highest", x.set(setting, highest[setting]), 0);
            due("set to the same", x.set(setting, highest[setting]), highest[setting]);
            due("set too high", x.set(setting, highest[setting] + 1), BAD_VALUE);
            due("set below 0", x.set(setting, -1), BAD_VALUE);
            due("set far below 0", x.set(setting, Integer.MIN_VALUE), BAD_VALUE);
            due("it is set", x.count(setting), highest[setting]);
        }
        due("set(-1, 0)", x.set(-1, 0), BAD_VALUE);
        due("set(3, 0)", x.set(3, 0), BAD_VALUE);
        due("set(max, 0)", x.set(Integer.MAX_VALUE, 0), BAD_VALUE);
        due("changes", x.count(12), 6);
        due("undo of the same", x.undo(), 5);
        due("still set", x.count(2), 60);
        x.undo();
        due("set back", x.count(2), 0);
    }

    // ---- promise 3

    private static void paper() {
        ExamHalls x = new ExamHalls();
        due("paper(0, 19, 180)", x.paper(0, 19, 180), 0);
        due("paper(0, 7, 30)", x.paper(0, 7, 30), 19);
        due("start", x.paperOf(0, 0), 7);
        due("minutes", x.paperOf(0, 1), 30);
        due("another paper", x.paperOf(1, 0), 0);
        due("paper(5, 3, 60)", x.paper(5, 3, 60), 0);
        due("changes", x.count(12), 3);
        due("paper(-1, 0, 60)", x.paper(-1, 0, 60), NO_SUCH);
        due("paper(6, 20, 0)", x.paper(6, 20, 0), NO_SUCH);
        due("paper(0, -1, 60)", x.paper(0, -1, 60), BAD_VALUE);
        due("paper(0, 20, 60)", x.paper(0, 20, 60), BAD_VALUE);
        due("paper(0, 0, 29)", x.paper(0, 0, 29), BAD_VALUE);
        due("paper(0, 0, 181)", x.paper(0, 0, 181), BAD_VALUE);
        due("paper(0, 0, -60)", x.paper(0, 0, -60), BAD_VALUE);
        due("no change by errors", x.count(12), 3);
        due("start as before", x.paperOf(0, 0), 7);
    }

    // ---- promise 4

    private static void pupil() {
        ExamHalls x = new ExamHalls();
        due("pupil(1, 0)", x.pupil(1, 0, false), 0);
        due("pupil(63, 100)", x.pupil(63, 100, true), 1);
        due("its desk", x.sitting(0, 0, 3), 0);
        due("its room", x.sitting(1, 0, 4), 0);
        due("papers", x.pupilOf(1, 0), 63);
        due("extra", x.pupilOf(1, 1), 100);
        due("reader", x.pupilOf(1, 2), 1);
        due("no reader", x.pupilOf(0, 2), 0);
        due("pupil(0, 0)", x.pupil(0, 0, false), BAD_VALUE);
        due("pupil(64, 0)", x.pupil(64, 0, false), BAD_VALUE);
        due("pupil(-1, 0)", x.pupil(-1, 0, false), BAD_VALUE);
        due("pupil(1, -1)", x.pupil(1, -1, false), BAD_VALUE);
        due("pupil(1, 101)", x.pupil(1, 101, false), BAD_VALUE);
        for (int number = 2; number < 16; number++) {
            due("pupil", x.pupil(F, number, false), number);
        }
        due("pupil too many", x.pupil(1, 0, false), TOO_MANY);
        due("bad ahead of too many", x.pupil(0, 0, false), BAD_VALUE);
        due("16 pupils", x.count(3), 16);
        due("history", x.count(12), 6);
    }

    // ---- promise 5

    private static void read() {
        ExamHalls x = new ExamHalls();
        due("read of nothing", x.read(), BAD_TEXT);
        Schools.type(x, "abf+25;cr;d+100r;e");
        due("read", x.read(), 4);
        due("pad", x.count(11), 0);
        int[][] want = {{A + B + F, 25, 0}, {C, 0, 1}, {D, 100, 1}, {E, 0, 0}};
        for (int pupil = 0; pupil < 4; pupil++) {
            for (int what = 0; what < 3; what++) {
                due("read pupil " + pupil + ", " + what, x.pupilOf(pupil, what), want[pupil][what]);
            }
        }
        due("one change", x.count(12), 1);
        Schools.type(x, "f+1");
        due("read one more", x.read(), 5);
        due("extra of 1", x.pupilOf(4, 1), 1);
        Schools.type(x, "a;b;");
        due("read of a text that ends too early", x.read(), BAD_TEXT);
        due("pad is kept", x.count(11), 4);
        Schools.type(x, "c;a;b;c;a;b;c;a;b;c");
        due("read of 12", x.read(), TOO_MANY);
        due("pad is kept", x.count(11), 23);
        due("pupils are kept", x.count(3), 5);
        due("no change", x.count(12), 2);
        x.leave(0);
        due("read of 12 to 4", x.read(), 16);
        due("the last one", x.pupilOf(15, 0), C);
        Schools.type(x, "a");
        due("read of a 17th", x.read(), TOO_MANY);
        x.wipe();
        due("bad text ahead of too many", x.read(), BAD_TEXT);
        due("undo", x.undo(), 3);
        due("pupils are gone", x.count(3), 4);
        due("the pad stays", x.count(11), 0);
        ExamHalls many = new ExamHalls();
        Schools.type(many, "a;a;a;a;a;a;a;a;a;a;a;a;a;a;a;a;a;a;a;a;a;a;a;a;a;a;a;a;a;a");
        due("30 pupils: no fault", many.fault(), NONE);
        due("30 pupils", many.read(), TOO_MANY);
        due("no pupils", many.count(3), 0);
        due("seats after read", Schools.withPupils("a").sitting(0, 0, 3), 0);
    }

    // ---- promise 6

    private static void change() {
        ExamHalls x = Schools.withPupils("abc;d");
        due("change to 3 pairs", x.change(0, A + B + C, 0, false), 3);
        due("change to none", x.change(0, A, 50, true), 0);
        due("papers", x.pupilOf(0, 0), A);
        due("extra", x.pupilOf(0, 1), 50);
        due("reader", x.pupilOf(0, 2), 1);
        due("room", x.sitting(0, 0, 4), 0);
        due("the other one", x.pupilOf(1, 0), D);
        due("change to 15 pairs", x.change(1, 63, 100, false), 15);
        due("change of the first one: its own pairs alone", x.change(0, A, 0, false), 0);
        due("changes", x.count(12), 5);
        due("change(-1)", x.change(-1, 0, 0, false), NO_SUCH);
        due("change(2)", x.change(2, 1, 0, false), NO_SUCH);
        due("change papers 0", x.change(0, 0, 0, false), BAD_VALUE);
        due("change papers 64", x.change(0, 64, 0, false), BAD_VALUE);
        due("change extra -1", x.change(0, 1, -1, false), BAD_VALUE);
        due("change extra 101", x.change(0, 1, 101, false), BAD_VALUE);
        due("no change", x.count(12), 5);
    }

    // ---- promise 7

    private static void leave() {
        ExamHalls x = Schools.withPupils("a+1;bc+2r;d+3;ef+4r");
        due("leave(1)", x.leave(1), B + C);
        due("pupils", x.count(3), 3);
        due("the one behind", x.pupilOf(1, 0), D);
        due("its extra", x.pupilOf(1, 1), 3);
        due("its reader", x.pupilOf(1, 2), 0);
        due("the last one", x.pupilOf(2, 0), E + F);
        due("its reader", x.pupilOf(2, 2), 1);
        due("the first one", x.pupilOf(0, 1), 1);
        due("leave(3)", x.leave(3), NO_SUCH);
        due("leave(-1)", x.leave(-1), NO_SUCH);
        due("leave(2)", x.leave(2), E + F);
        due("leave(0)", x.leave(0), A);
        due("leave(0) again", x.leave(0), D);
        due("nobody", x.leave(0), NO_SUCH);
        due("changes", x.count(12), 5);
        due("sittings", x.count(4), 0);
        due("desk is free", x.at(0, 0, 0), NONE);
        due("undo", x.undo(), 4);
        due("back again", x.pupilOf(0, 0), D);
        ExamHalls full = Schools.withPupils("a;a;a;a;a;a;a;a;a;a;a;a;a;a;a;b+7");
        due("leave of 16", full.leave(0), A);
        due("last of 15", full.pupilOf(14, 1), 7);
        due("a place for one", full.pupil(F, 0, false), 15);
    }

    // ---- promise 8

    private static void hall() {
        ExamHalls x = new ExamHalls();
        due("hall(0, 1, 1)", x.hall(0, 1, 1), 4);
        due("hall(0, 4, 3)", x.hall(0, 4, 3), 1);
        due("hall(0, 4, 4)", x.hall(0, 4, 4), 12);
        due("rows", x.hallOf(0, 0), 4);
        due("columns", x.hallOf(0, 1), 4);
        due("hall(3, 1, 3)", x.hall(3, 1, 3), 4);
        due("rows", x.hallOf(3, 0), 1);
        due("columns", x.hallOf(3, 1), 3);
        due("hall(-1)", x.hall(-1, 0, 1), NO_SUCH);
        due("hall(4)", x.hall(4, 5, 1), NO_SUCH);
        due("hall rows 0", x.hall(0, 0, 1), BAD_VALUE);
        due("hall rows 5", x.hall(0, 5, 1), BAD_VALUE);
        due("hall columns 0", x.hall(0, 1, 0), BAD_VALUE);
        due("hall columns 5", x.hall(0, 1, 5), BAD_VALUE);
        due("changes", x.count(12), 4);
        due("desks", x.count(8), 16);
    }

    // ---- promise 9

    private static void open() {
        ExamHalls x = Schools.withPupils("a;a;a;b;b;c");
        due("no place", x.count(5), 2);
        due("open(3, true)", x.open(3, true), 0);
        due("halls", x.count(7), 9);
        due("open(3, true) again", x.open(3, true), NOT_POSSIBLE);
        due("open(0, false)", x.open(0, false), 2);
        due("seated in hall 3", x.hallOf(3, 3), 4);
        due("open(3, false)", x.open(3, false), 6);
        due("open(3, false) again", x.open(3, false), NOT_POSSIBLE);
        due("open(1, false)", x.open(1, false), NOT_POSSIBLE);
        due("open(-1, true)", x.open(-1, true), NO_SUCH);
        due("open(4, false)", x.open(4, false), NO_SUCH);
        due("changes", x.count(12), 4);
        due("no halls", x.count(7), 0);
    }

    // ---- promise 10

    private static void pupilOf() {
        ExamHalls x = Schools.withPupils("abc+33;ab+7r;ab;ab;ab");
        x.paper(2, 2, 31);
        due("papers", x.pupilOf(0, 0), A + B + C);
        due("extra", x.pupilOf(0, 1), 33);
        due("extra", x.pupilOf(1, 1), 7);
        due("reader", x.pupilOf(1, 2), 1);
        due("reader", x.pupilOf(0, 2), 0);
        // 60 and 33 hundredths is 79.8, so 80: past the start of c, at 60.
        due("clashes", x.pupilOf(0, 3), 3);
        due("clashes", x.pupilOf(2, 3), 1);
        due("minutes: 80, 80, and 41.23 rounded up", x.pupilOf(0, 5), 202);
        due("minutes: 64.2 rounded up, twice", x.pupilOf(1, 5), 130);
        // a: pupils 0 and 2 at desks 0 and 3; b: pupils 0 and 2 at desks 1 and 2; c: desks are taken until 80.
        due("no place", x.pupilOf(0, 4), C);
        due("no place for the second one with a reader", x.pupilOf(1, 4), B);
        due("no place", x.pupilOf(2, 4), 0);
        due("no place", x.pupilOf(3, 4), A + B);
        due("pupilOf(-1, 9)", x.pupilOf(-1, 9), NO_SUCH);
        due("pupilOf(5, 0)", x.pupilOf(5, 0), NO_SUCH);
        due("pupilOf(0, -1)", x.pupilOf(0, -1), BAD_VALUE);
        due("pupilOf(0, 6)", x.pupilOf(0, 6), BAD_VALUE);
        // One that ends just when the other one begins does not clash, whatever the gap.
        ExamHalls y = Schools.withPupils("ab");
        y.paper(1, 2, 60);
        due("end at the start", y.pupilOf(0, 3), 0);
        due("end at the start: a", y.sitting(0, 0, 5), 0);
        due("end at the start: b", y.sitting(0, 1, 5), 0);
        y.paper(0, 0, 61);
        due("end a minute later", y.pupilOf(0, 3), 1);
        y.paper(0, 4, 30);
        due("behind it", y.pupilOf(0, 3), 0);
        y.change(0, A + B, 1, false);
        due("a little extra time", y.pupilOf(0, 3), 1);
    }

    // ---- promise 11

    private static void paperOf() {
        ExamHalls x = Schools.withPupils("a;a+100;b;a+10r;a;ar");
        x.paper(0, 5, 90);
        due("start", x.paperOf(0, 0), 5);
        due("minutes", x.paperOf(0, 1), 90);
        due("pupils", x.paperOf(0, 2), 1 + 2 + 8 + 16 + 32);
        due("last end", x.paperOf(0, 3), 150 + 180);
        due("no place", x.paperOf(0, 4), 2);
        due("halls", x.paperOf(0, 5), 1);
        due("halls without a pupil", x.paperOf(2, 5), 0);
        due("no end", x.paperOf(2, 3), NONE);
        due("no place", x.paperOf(2, 4), 0);
        due("pupils", x.paperOf(2, 2), 0);
        x.open(2, true);
        due("two halls", x.paperOf(0, 5), 5);
        due("no place but one with a reader", x.paperOf(0, 4), 1);
        x.leave(1);
        due("last end of one with a reader", x.paperOf(0, 3), 150 + 99);
        due("paperOf(-1, 9)", x.paperOf(-1, 9), NO_SUCH);
        due("paperOf(6, 0)", x.paperOf(6, 0), NO_SUCH);
        due("paperOf(0, -1)", x.paperOf(0, -1), BAD_VALUE);
        due("paperOf(0, 6)", x.paperOf(0, 6), BAD_VALUE);
        ExamHalls rooms = Schools.withPupils("fr");
        due("rooms are no halls", rooms.paperOf(5, 5), 0);
        ExamHalls first = Schools.withPupils("b+50;b");
        due("last end of the first pupil", first.paperOf(1, 3), 90);
        first.hall(0, 1, 1);
        first.open(1, true);
        due("halls of both", first.paperOf(1, 5), 3);
        first.leave(1);
        due("the hall of the first pupil", first.paperOf(1, 5), 1);
        first.open(0, false);
        first.open(1, false);
        due("the first pupil has no place", first.paperOf(1, 4), 1);
    }

    // ---- promise 12, and the seating

    private static void sitting() {
        ExamHalls x = Schools.withPupils("ab+100;ar");
        x.paper(0, 19, 180);
        due("begin", x.sitting(0, 0, 0), 570);
        due("end", x.sitting(0, 0, 1), 930);
        due("begin of b", x.sitting(0, 1, 0), 0);
        due("end of b", x.sitting(0, 1, 1), 120);
        due("hall", x.sitting(0, 0, 2), 0);
        due("desk", x.sitting(0, 0, 3), 0);
        due("room", x.sitting(0, 0, 4), NONE);
        due("hall of one with a reader", x.sitting(1, 0, 2), NONE);
        due("desk of one with a reader", x.sitting(1, 0, 3), NONE);
        due("room of one with a reader", x.sitting(1, 0, 4), 0);
        due("clashes", x.sitting(0, 0, 5), 0);
        x.paper(0, 3, 30);
        due("clashes", x.sitting(0, 0, 5), B);
        due("clashes", x.sitting(0, 1, 5), A);
        x.change(0, A, 71, false);
        x.paper(0, 0, 100);
        due("no hundredth is left over", x.sitting(0, 0, 1), 171);
        x.paper(0, 0, 31);
        due("one hundredth is rounded up", x.sitting(0, 0, 1), 54);
        x.change(0, A, 29, false);
        due("99 hundredths are rounded up", x.sitting(0, 0, 1), 40);
        due("sitting(2, 6, 9)", x.sitting(2, 6, 9), NO_SUCH);
        due("sitting(-1, 0, 0)", x.sitting(-1, 0, 0), NO_SUCH);
        due("sitting(0, 6, 9)", x.sitting(0, 6, 9), NO_SUCH);
        due("sitting(0, -1, 0)", x.sitting(0, -1, 0), NO_SUCH);
        due("sitting(0, 5, 6)", x.sitting(0, 5, 6), BAD_VALUE);
        due("sitting(0, 5, -1)", x.sitting(0, 5, -1), BAD_VALUE);
        due("sitting(0, 5, 0)", x.sitting(0, 5, 0), NOT_POSSIBLE);
        due("sitting(1, 1, 5)", x.sitting(1, 1, 5), NOT_POSSIBLE);
    }

    private static void sittingsAtDesks() {
        ExamHalls x = Schools.withPupils("a;a;a;a;a;a;a;a;b;b");
        x.hall(0, 3, 3);
        int[] desks = {0, 2, 4, 6, 8, NONE, NONE, NONE};
        for (int pupil = 0; pupil < 8; pupil++) {
            due("desk of 3 x 3", x.sitting(pupil, 0, 3), desks[pupil]);
            due("hall of 3 x 3", x.sitting(pupil, 0, 2), desks[pupil] == NONE ? NONE : 0);
        }
        due("another paper between", x.sitting(8, 1, 3), 1);
        due("another paper between", x.sitting(9, 1, 3), 3);
        x.hall(0, 2, 4);
        int[] wide = {0, 2, 5, 7, NONE};
        for (int pupil = 0; pupil < 5; pupil++) {
            due("desk of 2 x 4: the end of a row is not beside the next row", x.sitting(pupil, 0, 3), wide[pupil]);
        }
        x.hall(0, 4, 1);
        due("desk of 4 x 1", x.sitting(1, 0, 3), 2);
        due("none", x.sitting(2, 0, 3), NONE);
        x.open(1, true);
        due("next hall", x.sitting(2, 0, 2), 1);
        due("next hall's first desk", x.sitting(2, 0, 3), 0);
        due("across: both ways", x.sitting(3, 0, 3), 3);
        x.set(0, 0);
        for (int pupil = 0; pupil < 8; pupil++) {
            due("not spread: hall", x.sitting(pupil, 0, 2), pupil / 4);
            due("not spread: desk", x.sitting(pupil, 0, 3), pupil % 4);
        }
        due("not spread: no place", x.sitting(8, 1, 3), NONE);
        x.open(1, false);
        due("a closed hall", x.sitting(4, 0, 2), NONE);
        ExamHalls full = Schools.withPupils("abcd;abcd;abcd;abcd;abcd;abcd;abcd;abcd");
        Schools.type(full, "abcd;abcd;abcd;abcd;abcd;abcd;abcd;abcd");
        full.read();
        full.set(0, 0);
        for (int hall = 0; hall < 4; hall++) {
            full.hall(hall, 4, 4);
            full.open(hall, true);
        }
        due("64 sittings at 64 desks", full.count(5), 0);
        for (int hall = 0; hall < 4; hall++) {
            due("16 at once", full.hallOf(hall, 4), 16);
            due("the last desk", full.at(hall, 15, 0), 6 * 15 + hall);
        }
    }

    private static void sittingsAtTheEdgeOfAGap() {
        ExamHalls x = Schools.withPupils("a;b;c");
        x.hall(0, 1, 1);
        x.paper(1, 2, 60);
        x.paper(2, 4, 60);
        due("a gap of 10 is missing", x.sitting(1, 1, 3), NONE);
        due("one that has no place takes none", x.sitting(2, 2, 3), 0);
        x.set(2, 0);
        due("no gap is needed", x.sitting(1, 1, 3), 0);
        due("no gap is needed", x.sitting(2, 2, 3), 0);
        x.set(2, 30);
        x.paper(0, 0, 30);
        due("just the gap", x.sitting(1, 1, 3), 0);
        x.paper(0, 0, 31);
        due("a minute less than the gap", x.sitting(1, 1, 3), NONE);
        x.set(2, 60);
        due("an empty desk at minute 0 with the greatest gap", x.sitting(0, 0, 3), 0);
        // The same paper beside, but at another time, is beside nobody: only the same start is the same paper.
        ExamHalls y = Schools.withPupils("ab;b;a");
        y.hall(0, 1, 2);
        y.paper(1, 4, 60);
        due("a", y.sitting(0, 0, 3), 0);
        due("b at the same desk", y.sitting(0, 1, 3), 0);
        due("b beside it", y.sitting(1, 1, 3), NONE);
        due("a beside it", y.sitting(2, 0, 3), NONE);
    }

    private static void sittingsInRooms() {
        ExamHalls x = Schools.withPupils("ar;a+50r;br;b;cr");
        x.set(1, 2);
        x.paper(1, 2, 60);
        x.paper(2, 3, 30);
        due("room 0", x.sitting(0, 0, 4), 0);
        due("room 1", x.sitting(1, 0, 4), 1);
        // Room 0 is taken until 60, and b begins at 60; room 1 is taken until 90.
        due("no gap between", x.sitting(2, 1, 4), NONE);
        due("a desk is no room", x.sitting(3, 1, 4), NONE);
        due("a desk", x.sitting(3, 1, 3), 0);
        due("c in room 0", x.sitting(4, 2, 4), 0);
        x.set(2, 0);
        due("b in room 0", x.sitting(2, 1, 4), 0);
        due("c in room 1, free since 90", x.sitting(4, 2, 4), 1);
        x.set(1, 0);
        due("no rooms", x.sitting(0, 0, 4), NONE);
        due("no rooms, no desk", x.sitting(0, 0, 2), NONE);
        due("no place", x.count(5), 4);
        // Rooms need no spread: the same paper may be in rooms beside one another, and halls need not be open.
        x.set(1, 6);
        x.open(0, false);
        due("rooms do without halls", x.sitting(1, 0, 4), 1);
    }

    private static void sittingsInTheirOrder() {
        ExamHalls x = Schools.withPupils("b;c;a;a");
        x.set(0, 0);
        x.hall(0, 1, 3);
        due("papers ahead of pupils: a", x.sitting(2, 0, 3), 0);
        due("papers ahead of pupils: a", x.sitting(3, 0, 3), 1);
        due("papers ahead of pupils: b", x.sitting(0, 1, 3), 2);
        due("papers ahead of pupils: c", x.sitting(1, 2, 3), NONE);
        x.paper(0, 1, 60);
        due("starts ahead of papers: b", x.sitting(0, 1, 3), 0);
        due("starts ahead of papers: c", x.sitting(1, 2, 3), 1);
        due("starts ahead of papers: a", x.sitting(2, 0, 3), 2);
        due("starts ahead of papers: a", x.sitting(3, 0, 3), NONE);
        ExamHalls y = Schools.withPupils("abc");
        due("sittings that clash are seated each: a", y.sitting(0, 0, 3), 0);
        due("sittings that clash are seated each: b", y.sitting(0, 1, 3), 1);
        due("sittings that clash are seated each: c", y.sitting(0, 2, 3), 2);
    }

    // ---- promise 13

    private static void hallOf() {
        ExamHalls x = Schools.withPupils("a;b;ac;d+100;dr");
        x.hall(0, 2, 3);
        x.paper(2, 3, 30);
        x.paper(3, 4, 30);
        due("rows", x.hallOf(0, 0), 2);
        due("columns", x.hallOf(0, 1), 3);
        due("open", x.hallOf(0, 2), 1);
        due("closed", x.hallOf(1, 2), 0);
        due("seated", x.hallOf(0, 3), 5);
        due("most at once", x.hallOf(0, 4), 3);
        due("seated in a closed one", x.hallOf(1, 3), 0);
        due("most in a closed one", x.hallOf(1, 4), 0);
        x.paper(2, 1, 120);
        due("most at once, in the middle", x.hallOf(0, 4), 4);
        x.paper(2, 2, 30);
        due("not at the minute of an end", x.hallOf(0, 4), 3);
        ExamHalls first = Schools.withPupils("a;b");
        first.paper(1, 4, 60);
        due("the first sitting of paper a", first.hallOf(0, 4), 1);
        first.paper(0, 9, 60);
        first.leave(1);
        due("the first sitting, alone", first.hallOf(0, 4), 1);
        due("hallOf(-1, 9)", x.hallOf(-1, 9), NO_SUCH);
        due("hallOf(4, 0)", x.hallOf(4, 0), NO_SUCH);
        due("hallOf(0, -1)", x.hallOf(0, -1), BAD_VALUE);
        due("hallOf(0, 5)", x.hallOf(0, 5), BAD_VALUE);
    }

    // ---- promise 14

    private static void count() {
        ExamHalls x = Schools.withPupils("abr;abr;bc+50;a;a;a");
        x.paper(1, 1, 60);
        x.paper(2, 3, 45);
        x.set(0, 1);
        x.set(1, 0);
        x.set(2, 25);
        Schools.type(x, "ab;c");
        int[] counts = {1, 0, 25, 6, 9, 5, 3, 1, 4, 4, 158, 4, 6};
        for (int what = 0; what < counts.length; what++) {
            due("count(" + what + ")", x.count(what), counts[what]);
        }
        due("count(-1)", x.count(-1), BAD_VALUE);
        due("count(13)", x.count(13), BAD_VALUE);
        x.open(2, true);
        x.hall(2, 4, 3);
        due("halls", x.count(7), 5);
        due("desks", x.count(8), 16);
        x.open(0, false);
        due("halls", x.count(7), 4);
        due("desks", x.count(8), 12);
        // b begins when a has ended: not at once.
        x.paper(1, 2, 60);
        due("readers at once", x.count(9), 2);
        x.wipe();
        due("pad", x.count(11), 0);
        ExamHalls first = Schools.withPupils("ar;br");
        first.paper(0, 8, 60);
        due("the end of paper a is the last", first.count(10), 300);
        first.paper(1, 7, 90);
        due("the most readers when a begins", first.count(9), 2);
    }

    // ---- promise 15

    private static void at() {
        ExamHalls x = Schools.withPupils("c;cr;bf");
        x.paper(2, 1, 60);
        x.paper(1, 4, 30);
        x.paper(5, 0, 30);
        x.set(2, 0);
        due("f from 0", x.at(0, 0, 0), 6 * 2 + 5);
        due("f until 29", x.at(0, 0, 29), 6 * 2 + 5);
        due("c from 30", x.at(0, 0, 30), 2);
        due("c until 89", x.at(0, 0, 89), 2);
        due("nobody at 90", x.at(0, 0, 90), NONE);
        due("b from 120", x.at(0, 0, 120), 6 * 2 + 1);
        due("nobody at 150", x.at(0, 0, 150), NONE);
        due("nobody ever", x.at(0, 0, Integer.MAX_VALUE), NONE);
        due("another desk", x.at(0, 1, 30), NONE);
        due("a closed hall", x.at(1, 3, 30), NONE);
        due("at(-1, 0, -1)", x.at(-1, 0, -1), NO_SUCH);
        due("at(4, 0, 0)", x.at(4, 0, 0), NO_SUCH);
        due("at(0, 4, -1)", x.at(0, 4, -1), NO_SUCH);
        due("at(0, -1, 0)", x.at(0, -1, 0), NO_SUCH);
        due("at(0, 3, -1)", x.at(0, 3, -1), BAD_VALUE);
        x.hall(0, 3, 2);
        due("at(0, 4, 0)", x.at(0, 4, 0), NONE);
        due("at(0, 6, 0)", x.at(0, 6, 0), NO_SUCH);
    }

    // ---- promise 16

    private static void ifStart() {
        ExamHalls x = Schools.withPupils("ab;ab+50;b;b");
        long before = picture(x);
        due("clashes now", x.ifStart(0, 0, 0), 2);
        due("no place now", x.ifStart(0, 0, 1), 2);
        due("end now", x.ifStart(0, 0, 2), 90);
        due("clashes if b is at 60", x.ifStart(1, 2, 0), 1);
        due("clashes if b is at 90", x.ifStart(1, 3, 0), 0);
        // The desk 3 is free again at 100, and the spread leaves only the desks 0 and 3 for b.
        due("no place if b is at 90", x.ifStart(1, 3, 1), 3);
        due("no place if b is at 120", x.ifStart(1, 4, 1), 2);
        due("end if b is at 570", x.ifStart(1, 19, 2), 660);
        x.open(1, true);
        before = picture(x);
        due("no place with two halls", x.ifStart(1, 19, 1), 0);
        due("nothing changes", picture(x), before);
        due("no change", x.count(12), 2);
        due("ifStart(-1, 20, 3)", x.ifStart(-1, 20, 3), NO_SUCH);
        due("ifStart(6, 0, 0)", x.ifStart(6, 0, 0), NO_SUCH);
        due("ifStart(0, -1, 0)", x.ifStart(0, -1, 0), BAD_VALUE);
        due("ifStart(0, 20, 0)", x.ifStart(0, 20, 0), BAD_VALUE);
        due("ifStart(0, 0, -1)", x.ifStart(0, 0, -1), BAD_VALUE);
        due("ifStart(0, 0, 3)", x.ifStart(0, 0, 3), BAD_VALUE);
        due("end without a pupil", new ExamHalls().ifStart(0, 19, 2), 0);
    }

    // ---- promise 17

    private static void bestStart() {
        ExamHalls x = Schools.withPupils("ab");
        due("the first one without a clash", x.bestStart(0), 2);
        due("of papers without pupils the least", x.bestStart(5), 0);
        x.paper(1, 10, 60);
        due("the least start", x.bestStart(0), 0);
        x.paper(1, 0, 180);
        due("behind b", x.bestStart(0), 6);
        // Clashes come first, places next: at 60 nobody clashes, but the gap is missing until 90.
        ExamHalls y = Schools.withPupils("ab;b");
        y.hall(0, 1, 2);
        y.set(0, 0);
        y.paper(1, 0, 60);
        due("clashes at 60", y.ifStart(0, 2, 0), 0);
        due("no place at 60", y.ifStart(0, 2, 1), 1);
        due("a place at 90", y.bestStart(0), 3);
        // Where b clashes, at 0, all have a place; wherever it does not, somebody has none.
        ExamHalls z = Schools.withPupils("ab;c+100;d+100");
        z.hall(0, 1, 2);
        z.set(0, 0);
        z.set(2, 60);
        z.paper(0, 0, 180);
        z.paper(2, 6, 180);
        z.paper(3, 8, 180);
        due("a clash at 0", z.ifStart(1, 0, 0), 1);
        due("all have a place at 0", z.ifStart(1, 0, 1), 0);
        due("no clash at 180", z.ifStart(1, 6, 0), 0);
        due("one without a place at 180", z.ifStart(1, 6, 1), 1);
        due("fewer clashes are better than fewer without a place", z.bestStart(1), 6);
        due("nothing changes", z.paperOf(1, 0), 0);
        due("no change", z.count(12), 6);
        // The same with the clash behind: the desks are full until a begins, and again from its end on.
        ExamHalls w = Schools.withPupils("ab;c+100;d+100;e+100;f+100");
        w.set(0, 0);
        w.set(2, 0);
        w.hall(0, 1, 2);
        int[] starts = {12, 12, 0, 0, 13, 13};
        for (int paper = 0; paper < 6; paper++) {
            w.paper(paper, starts[paper], paper < 2 ? 30 : 180);
        }
        due("all have a place with the clash", w.ifStart(1, 12, 1), 0);
        due("one without a place ahead of it", w.ifStart(1, 0, 1), 1);
        due("the first one without a clash", w.bestStart(1), 0);
        // The sittings of a and c fill the day: b clashes with one of them at least, and d's desk is free from 90.
        ExamHalls all = Schools.withPupils("abc+100;d");
        all.hall(0, 1, 2);
        all.set(0, 0);
        all.paper(0, 0, 180);
        all.paper(2, 12, 180);
        due("a clash at 0", all.ifStart(1, 0, 0), 1);
        due("one without a place at 0", all.ifStart(1, 0, 1), 1);
        due("two clashes at 270", all.ifStart(1, 9, 0), 2);
        due("the fewest without a place", all.bestStart(1), 3);
        due("bestStart(-1)", all.bestStart(-1), NO_SUCH);
        due("bestStart(6)", all.bestStart(6), NO_SUCH);
        ExamHalls closed = Schools.withPupils("ab");
        closed.open(0, false);
        due("nobody has a place: the least one without a clash", closed.bestStart(0), 2);
    }

    // ---- promise 18

    private static void bestHalls() {
        ExamHalls x = Schools.withPupils("a;a;a");
        due("two halls of 2 x 2", x.bestHalls(0), 3);
        due("all have a place", x.bestHalls(1), 0);
        x.hall(1, 4, 4);
        due("one hall of 16 desks needs more desks than two of 4", x.bestHalls(0), 1 + 4);
        x.hall(3, 1, 3);
        due("two desks more in the hall 3, one each", x.bestHalls(0), 1 + 8);
        x.hall(2, 3, 2);
        due("one hall of 6 is enough", x.bestHalls(0), 4);
        x.set(0, 0);
        due("without the spread 3 desks are enough", x.bestHalls(0), 8);
        x.hall(0, 1, 3);
        due("of equal halls the least set", x.bestHalls(0), 1);
        due("halls are as they were", x.count(7), 1);
        due("bestHalls(-1)", x.bestHalls(-1), BAD_VALUE);
        due("bestHalls(2)", x.bestHalls(2), BAD_VALUE);
        ExamHalls y = Schools.withPupils("ar;ar;a");
        due("readers need no hall", y.bestHalls(0), 1);
        due("but a room", y.bestHalls(1), 1);
        ExamHalls z = Schools.withPupils("a;a;a;a;a;a;a;a;a;a;a;a");
        due("all halls", z.bestHalls(0), 15);
        due("8 of 12", z.bestHalls(1), 4);
        due("no pupil, no hall", new ExamHalls().bestHalls(0), 0);
        due("no pupil, no hall", new ExamHalls().bestHalls(1), 0);
    }

    // ---- promise 19

    private static void leastRooms() {
        due("no readers", Schools.withPupils("a;a;a").leastRooms(), 0);
        ExamHalls x = Schools.withPupils("ar;ar;br;a;a;a");
        due("3 rooms", x.leastRooms(), 3);
        due("the setting stays", x.count(1), 1);
        x.paper(1, 2, 60);
        due("the gap is missing", x.leastRooms(), 3);
        x.set(2, 0);
        due("2 rooms", x.leastRooms(), 2);
        due("others without a place do not matter", x.count(5) > 0 ? 1 : 0, 1);
        due("6 rooms", Schools.withPupils("ar;ar;ar;ar;ar;ar").leastRooms(), 6);
        due("not even 6", Schools.withPupils("ar;ar;ar;ar;ar;ar;ar").leastRooms(), NONE);
        ExamHalls high = Schools.withPupils("a");
        high.set(1, 6);
        due("0 even if there are more", high.leastRooms(), 0);
    }

    // ---- promise 20

    private static void put() {
        ExamHalls x = new ExamHalls();
        due("put nothing", x.put(0), BAD_VALUE);
        due("put 8", x.put(Schools.word("abcdefgh")), 8);
        due("put 1", x.put(Schools.word("+")), 9);
        due("put 32", x.put(32), BAD_VALUE);
        due("put 33", x.put(33), 10);
        due("put 126", x.put(126), 11);
        due("put 127", x.put(127), BAD_VALUE);
        due("put 128", x.put(128), BAD_VALUE);
        due("put 255", x.put(255), BAD_VALUE);
        due("put a 0 below", x.put(Schools.word("a") << 8), BAD_VALUE);
        due("put a 0 between", x.put(Schools.word("a") << 16 | Schools.word("a")), BAD_VALUE);
        due("put a 0 and a bit above", x.put(1L << 62 | Schools.word("a")), BAD_VALUE);
        due("put a 0 and the highest bit", x.put(Long.MIN_VALUE | Schools.word("a")), BAD_VALUE);
        due("put -1", x.put(-1), BAD_VALUE);
        due("put the least", x.put(Long.MIN_VALUE), BAD_VALUE);
        due("put a bad first one", x.put(0x80L << 56 | Schools.word("aaaaaaa")), BAD_VALUE);
        due("put a bad one in the middle", x.put(Schools.word("aa a")), BAD_VALUE);
        due("the pad is kept", x.count(11), 11);
        for (int length = 19; length <= 59; length += 8) {
            due("put", x.put(Schools.word("12345678")), length);
        }
        due("put 2 to 59", x.put(Schools.word("ab")), TOO_MANY);
        due("bad ahead of too many", x.put(Schools.word("a b")), BAD_VALUE);
        due("put 1 to 59", x.put(Schools.word("a")), 60);
        due("put 1 to 60", x.put(Schools.word("a")), TOO_MANY);
        due("the pad is full", x.count(11), 60);
        due("no change", x.count(12), 0);
        ExamHalls y = new ExamHalls();
        y.put(Schools.word("a;"));
        y.put(Schools.word("bc"));
        y.read();
        due("the last character is the lowest", y.pupilOf(1, 0), B + C);
    }

    // ---- promise 21

    private static void wipe() {
        ExamHalls x = new ExamHalls();
        due("wipe of nothing", x.wipe(), 0);
        Schools.type(x, "abc;d");
        due("wipe", x.wipe(), 5);
        due("pad", x.count(11), 0);
        due("wipe again", x.wipe(), 0);
        Schools.type(x, "f");
        due("a new text", x.fault(), NONE);
        due("no change", x.count(12), 0);
    }

    // ---- promise 22

    private static void fault() {
        String[] right = {"a", "f", "abcdef", "af", "a+1", "a+10", "a+99", "a+100", "ar", "a+7r", "a;a",
            "ab+5r;cr;d+100", "f;a", "ar;b", "a+1;b", "a+100r;a"};
        for (String text : right) {
            due("fault of " + text, faultOf(text), NONE);
        }
        Object[][] wrong = {{"", 0}, {"g", 0}, {"A", 0}, {"`", 0}, {"r", 0}, {"+", 0}, {";", 0}, {"1", 0}, {"aa", 1},
            {"ba", 1}, {"acb", 2}, {"fa", 1}, {"ag", 1}, {"a1", 1}, {"a+", 2}, {"a+0", 2}, {"a+r", 2}, {"a+;", 2},
            {"a+a", 2}, {"a++", 2}, {"a+:", 2}, {"a+/", 2}, {"a+10a", 4}, {"a+101", 4}, {"a+11r1", 5}, {"a+110", 4},
            {"a+200", 4}, {"a+1000", 5}, {"a+1+", 3}, {"arr", 2}, {"ara", 2}, {"ar+1", 2}, {"ar1", 2}, {"a;", 2},
            {"a;;", 2}, {"a;r", 2}, {"a;+", 2}, {"a;1", 2}, {"ar;", 3}, {"a+1;", 4}, {"a+100;", 6}, {"a;b;", 4},
            {"a~", 1}, {"!", 0}, {"a;bb", 3}, {"ab+5x", 4}};
        for (Object[] row : wrong) {
            due("fault of " + row[0], faultOf((String) row[0]), (int) row[1]);
        }
        ExamHalls x = new ExamHalls();
        Schools.type(x, "a;a;a;a;a;a;a;a;a;a;a;a;a;a;a;a;a;a;a;a;a;a;a;a;a;a;a;a;a;a;");
        due("60 characters that end too early", x.fault(), 60);
        due("nothing changes", x.count(11), 60);
        due("no change", x.count(12), 0);
    }

    private static int faultOf(String text) {
        ExamHalls x = new ExamHalls();
        Schools.type(x, text);
        return x.fault();
    }

    // ---- promise 23

    private static void undo() {
        ExamHalls x = new ExamHalls();
        due("nothing to undo", x.undo(), NOT_POSSIBLE);
        for (int i = 0; i < 8; i++) {
            x.pupil(A, i, false);
            due("history", x.count(12), Math.min(6, i + 1));
        }
        x.put(Schools.word("abc"));
        for (int i = 7; i >= 2; i--) {
            due("undo", x.undo(), i - 2);
            due("pupils", x.count(3), i);
        }
        due("the oldest ones are dropped", x.undo(), NOT_POSSIBLE);
        due("two pupils", x.count(3), 2);
        due("the pad stays", x.count(11), 3);
        x.set(2, 10);
        due("a change to the same", x.count(12), 1);
        due("undo of it", x.undo(), 0);
        x.paper(0, 4, 60);
        x.undo();
        x.paper(1, 5, 60);
        due("after an undo", x.count(12), 1);
        due("undo", x.undo(), 0);
        due("start a", x.paperOf(0, 0), 0);
        due("start b", x.paperOf(1, 0), 0);
        due("seated again", x.sitting(1, 0, 3), 3);
    }

    private static void undoOfEachChange() {
        for (int kind = 0; kind < 9; kind++) {
            ExamHalls x = Schools.withPupils("ab+5;cdr;a;a");
            x.save(1);
            x.set(0, 0);
            x.hall(1, 1, 3);
            x.put(Schools.word("f"));
            long before = picture(x);
            int answer = switch (kind) {
                case 0 -> x.set(1, 4);
                case 1 -> x.paper(0, 3, 70);
                case 2 -> x.pupil(F, 9, true);
                case 3 -> x.read();
                case 4 -> x.change(1, A, 1, false);
                case 5 -> x.leave(0);
                case 6 -> x.hall(0, 4, 4);
                case 7 -> x.open(2, true);
                default -> x.restore(1);
            };
            Due.isTrue("change " + kind + " is no error", answer >= 0);
            Due.isTrue("change " + kind + " changes something", picture(x) != before);
            due("change " + kind + " is recorded", x.count(12), 4);
            due("undo of change " + kind, x.undo(), 3);
            due("all as before change " + kind, picture(x), before);
            due("the pad after undo of change " + kind, x.count(11), kind == 3 ? 0 : 1);
        }
    }

    // ---- promise 24

    private static void save() {
        ExamHalls x = Schools.withPupils("a;b;c");
        due("save(0)", x.save(0), 3);
        x.leave(0);
        due("save(1)", x.save(1), 2);
        due("save(-1)", x.save(-1), BAD_VALUE);
        due("save(2)", x.save(2), BAD_VALUE);
        due("no change", x.count(12), 2);
        due("restore(0)", x.restore(0), 3);
        due("restore(1)", x.restore(1), 2);
        x.leave(0);
        due("save(0) over it", x.save(0), 1);
        x.leave(0);
        due("restore(0)", x.restore(0), 1);
        due("what was saved last", x.pupilOf(0, 0), C);
        due("save of nobody", new ExamHalls().save(1), 0);
    }

    // ---- promise 25

    private static void restore() {
        ExamHalls x = Schools.withPupils("a+7r;bc;a;a;a");
        x.set(0, 0);
        x.set(1, 3);
        x.set(2, 33);
        x.paper(0, 5, 77);
        x.hall(0, 1, 4);
        x.open(3, true);
        long saved = picture(x);
        due("restore ahead of save", x.restore(0), NOT_POSSIBLE);
        due("restore(-1)", x.restore(-1), BAD_VALUE);
        due("restore(2)", x.restore(2), BAD_VALUE);
        x.save(0);
        due("restore of the other slot", x.restore(1), NOT_POSSIBLE);
        x.set(0, 1);
        x.set(1, 0);
        x.set(2, 0);
        x.paper(0, 6, 78);
        x.hall(0, 2, 2);
        x.open(3, false);
        x.open(0, false);
        x.leave(0);
        x.change(0, F, 1, true);
        x.put(Schools.word("ab"));
        long changed = picture(x);
        due("restore(0)", x.restore(0), 5);
        due("all as it was saved", picture(x), saved);
        due("seated again", x.sitting(4, 0, 3), 2);
        due("the pad stays", x.count(11), 2);
        due("history", x.count(12), 6);
        x.pupil(F, 0, false);
        due("the slot keeps it", x.restore(0), 5);
        due("all as it was saved", picture(x), saved);
        x.undo();
        x.undo();
        due("undo of a restore", x.undo(), 3);
        due("all as it was changed", picture(x), changed);
        due("undo leaves the slots", x.restore(0), 5);
        due("all as it was saved", picture(x), saved);
    }

    // ---- conventions

    private static void errorsChangeNothing() {
        ExamHalls x = Schools.withPupils("ab;cr;a");
        x.put(Schools.word("ba"));
        long before = picture(x);
        int[] answers = {
            x.set(0, 2), x.paper(0, 20, 60), x.pupil(64, 0, false), x.read(), x.change(0, 64, 0, true), x.leave(3),
            x.hall(0, 5, 1), x.open(0, true), x.pupilOf(0, 6), x.paperOf(0, 6), x.sitting(0, 5, 0), x.hallOf(0, 5),
            x.count(13), x.at(0, 4, 0), x.ifStart(0, 0, 3), x.bestStart(6), x.bestHalls(2), x.put(0), x.save(2),
            x.restore(0)};
        int[] want = {
            BAD_VALUE, BAD_VALUE, BAD_VALUE, BAD_TEXT, BAD_VALUE, NO_SUCH, BAD_VALUE, NOT_POSSIBLE, BAD_VALUE,
            BAD_VALUE, NOT_POSSIBLE, BAD_VALUE, BAD_VALUE, NO_SUCH, BAD_VALUE, NO_SUCH, BAD_VALUE, BAD_VALUE,
            BAD_VALUE, NOT_POSSIBLE};
        for (int i = 0; i < want.length; i++) {
            due("error " + i, answers[i], want[i]);
        }
        due("all as before", picture(x), before);
        due("history as before", x.count(12), 1);
        due("pad as before", x.count(11), 2);
        due("fault as before", x.fault(), 1);
    }
}
