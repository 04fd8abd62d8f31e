import java.util.ArrayList;
import java.util.Arrays;
import java.util.List;

/**
 * Every call that is refused: the error that is due, also where several apply, and nothing changed after it.
 * Each is made on four objects; what is there afterwards is held against an object that never had the call.
 */
public final class RefusalsTest {
    private static final int NO_SUCH = -1, BAD_VALUE = -2, BAD_TEXT = -3, TOO_MANY = -4, NOT_POSSIBLE = -5, NONE = -6;
    private static final int LEAST = Integer.MIN_VALUE, MOST = Integer.MAX_VALUE;
    // Far out of most ranges, and back in them when cut to fewer bits or shifted by.
    private static final int[] FAR = {LEAST, MOST, LEAST + 1, 1 << 30, 65536, 65537, 256, 32, 64, -32, -64, -255};

    private interface Call {
        int on(ExamHalls x);
    }

    private interface CallWithNumbers {
        int on(ExamHalls x, int[] numbers);
    }

    /** A state that can be made again and again, and all that is to be seen in it. */
    private enum State {
        NEW, ORDINARY, FULL, WITHOUT_HISTORY;

        private String view, undo, padAndSlots;

        ExamHalls make() {
            return switch (this) {
                case NEW -> new ExamHalls();
                case ORDINARY -> ordinary();
                case FULL -> full();
                case WITHOUT_HISTORY -> withoutHistory();
            };
        }

        void look() {
            view = Schools.view(make());
            undo = Schools.viewOfUndo(make());
            padAndSlots = Schools.viewOfPadAndSlots(make());
        }
    }

    private RefusalsTest() {
    }

    public static void main(String[] args) {
        for (State state : State.values()) {
            state.look();
            numbersOutOfRange(state);
            severalErrorsOfState(state);
        }
        statesAreWhatTheyAreCalled();
        padsThatAreTooLong();
        Due.end();
    }

    private static ExamHalls ordinary() {
        ExamHalls x = new ExamHalls();
        x.put(Schools.word("ab+25;cr"));
        x.put(Schools.word(";abc;d"));
        x.read();
        x.save(0);
        x.set(2, 5);
        x.paper(1, 3, 77);
        x.hall(1, 3, 2);
        x.open(1, true);
        x.pupil(Schools.B + Schools.F, 50, false);
        x.leave(0);
        x.undo();
        x.put(Schools.word("bd+7r;f"));
        return x;
    }

    /** 16 pupils, 6 changes to undo, 60 characters, both slots used. */
    private static ExamHalls full() {
        ExamHalls x = new ExamHalls();
        x.put(Schools.word("a;b+1;cr"));
        x.put(Schools.word(";d;e;f;a"));
        x.read();
        x.save(1);
        x.put(Schools.word("a;a;a;a;"));
        x.put(Schools.word("b;b;c;cr"));
        x.read();
        x.pupil(Schools.D, 100, true);
        x.set(0, 0);
        x.set(1, 6);
        x.save(0);
        x.paper(5, 19, 180);
        x.hall(0, 4, 4);
        x.open(3, true);
        for (int i = 0; i < 7; i++) {
            x.put(Schools.word("a+100r;b"));
        }
        x.put(Schools.word("+99r"));
        return x;
    }

    private static ExamHalls withoutHistory() {
        ExamHalls x = new ExamHalls();
        x.put(Schools.word("ab;cr;f"));
        x.read();
        for (int i = 0; i < 6; i++) {
            x.set(2, 10 * i);
        }
        x.save(1);
        for (int i = 0; i < 6; i++) {
            x.undo();
        }
        x.put(Schools.word("a;b;c"));
        return x;
    }

    private static void statesAreWhatTheyAreCalled() {
        Due.sentence("the four states");
        // pupils, length of the pad, changes that can be undone, fault of the pad
        int[][] want = {{0, 0, 0, 0}, {5, 7, 5, NONE}, {16, 60, 6, 8}, {3, 5, 0, NONE}};
        for (State state : State.values()) {
            ExamHalls x = state.make();
            int[] row = want[state.ordinal()];
            Due.is(state + ": pupils", x.count(3), row[0]);
            Due.is(state + ": pad", x.count(11), row[1]);
            Due.is(state + ": history", x.count(12), row[2]);
            Due.is(state + ": fault", x.fault(), row[3]);
        }
    }

    private static void refuse(State state, String name, Call call, int error) {
        String where = state + ": " + name;
        ExamHalls looked = state.make();
        Due.is(where, call.on(looked), error);
        Due.isSame(where + ", then a look", Schools.view(looked), state.view);
        ExamHalls undone = state.make();
        call.on(undone);
        Due.isSame(where + ", then undo", Schools.viewOfUndo(undone), state.undo);
        ExamHalls restored = state.make();
        call.on(restored);
        Due.isSame(where + ", then read and restore", Schools.viewOfPadAndSlots(restored), state.padAndSlots);
    }

    /** A call's numbers, in the order of its arguments: what is taken, and the error otherwise. */
    private static void numbersOutOfRange(State state) {
        int lastPupil = state.make().count(3) - 1;
        Due.sentence("2: BAD_VALUE if there is no such setting, or value is out of its range");
        numbers(state, "set to 0", (x, n) -> x.set(n[0], 0), 0, 2, BAD_VALUE);
        refuse(state, "set(3,61)", x -> x.set(3, 61), BAD_VALUE);
        numbers(state, "set SPREAD", (x, n) -> x.set(0, n[0]), 0, 1, BAD_VALUE);
        numbers(state, "set ROOMS", (x, n) -> x.set(1, n[0]), 0, 6, BAD_VALUE);
        numbers(state, "set GAP", (x, n) -> x.set(2, n[0]), 0, 60, BAD_VALUE);
        Due.sentence("3: NO_SUCH if there is no such paper; BAD_VALUE if another argument is out of range");
        numbers(state, "paper", (x, n) -> x.paper(n[0], n[1], n[2]),
                0, 5, NO_SUCH, 0, 19, BAD_VALUE, 30, 180, BAD_VALUE);
        Due.sentence("4: BAD_VALUE if an argument is out of range; TOO_MANY if there are 16");
        numbers(state, "pupil", (x, n) -> x.pupil(n[0], n[1], false), 1, 63, BAD_VALUE, 0, 100, BAD_VALUE);
        numbers(state, "pupil with a reader", (x, n) -> x.pupil(n[0], n[1], true), 1, 63, BAD_VALUE, 0, 100, BAD_VALUE);
        Due.sentence("6: NO_SUCH if there is no such pupil; BAD_VALUE as for pupil()");
        numbers(state, "change", (x, n) -> x.change(n[0], n[1], n[2], true),
                0, lastPupil, NO_SUCH, 1, 63, BAD_VALUE, 0, 100, BAD_VALUE);
        Due.sentence("7: NO_SUCH if there is no such pupil");
        numbers(state, "leave", (x, n) -> x.leave(n[0]), 0, lastPupil, NO_SUCH);
        Due.sentence("8: NO_SUCH if there is no such hall; BAD_VALUE if another argument is out of range");
        numbers(state, "hall", (x, n) -> x.hall(n[0], n[1], n[2]), 0, 3, NO_SUCH, 1, 4, BAD_VALUE, 1, 4, BAD_VALUE);
        Due.sentence("9: NO_SUCH if there is no such hall; NOT_POSSIBLE if it is so already");
        numbers(state, "open", (x, n) -> x.open(n[0], true), 0, 3, NO_SUCH);
        numbers(state, "close", (x, n) -> x.open(n[0], false), 0, 3, NO_SUCH);
        Due.sentence("10: NO_SUCH if there is no such pupil; BAD_VALUE if what is out of range");
        numbers(state, "pupilOf", (x, n) -> x.pupilOf(n[0], n[1]), 0, lastPupil, NO_SUCH, 0, 5, BAD_VALUE);
        Due.sentence("11: NO_SUCH if there is no such paper; BAD_VALUE if what is out of range");
        numbers(state, "paperOf", (x, n) -> x.paperOf(n[0], n[1]), 0, 5, NO_SUCH, 0, 5, BAD_VALUE);
        Due.sentence("12: NO_SUCH if there is no such pupil or paper; BAD_VALUE if what is out of range");
        numbers(state, "sitting", (x, n) -> x.sitting(n[0], n[1], n[2]),
                0, lastPupil, NO_SUCH, 0, 5, NO_SUCH, 0, 5, BAD_VALUE);
        Due.sentence("13: NO_SUCH if there is no such hall; BAD_VALUE if what is out of range");
        numbers(state, "hallOf", (x, n) -> x.hallOf(n[0], n[1]), 0, 3, NO_SUCH, 0, 4, BAD_VALUE);
        Due.sentence("14: BAD_VALUE if what is out of range");
        numbers(state, "count", (x, n) -> x.count(n[0]), 0, 12, BAD_VALUE);
        Due.sentence("15: NO_SUCH if there is no such hall or desk; BAD_VALUE if minute is below 0");
        for (int hall = 0; hall < 4; hall++) {
            int h = hall;
            int lastDesk = state.make().hallOf(hall, 0) * state.make().hallOf(hall, 1) - 1;
            numbers(state, "at " + h, (x, n) -> x.at(h, n[0], n[1]), 0, lastDesk, NO_SUCH, 0, MOST, BAD_VALUE);
        }
        numbers(state, "at", (x, n) -> x.at(n[0], 0, n[1]), 0, 3, NO_SUCH, 0, MOST, BAD_VALUE);
        Due.sentence("16: NO_SUCH if there is no such paper; BAD_VALUE if another argument is out of range");
        numbers(state, "ifStart", (x, n) -> x.ifStart(n[0], n[1], n[2]),
                0, 5, NO_SUCH, 0, 19, BAD_VALUE, 0, 2, BAD_VALUE);
        Due.sentence("17: NO_SUCH if there is no such paper");
        numbers(state, "bestStart", (x, n) -> x.bestStart(n[0]), 0, 5, NO_SUCH);
        Due.sentence("18: BAD_VALUE if what is neither 0 nor 1");
        numbers(state, "bestHalls", (x, n) -> x.bestHalls(n[0]), 0, 1, BAD_VALUE);
        Due.sentence("24: BAD_VALUE if there is no such slot");
        numbers(state, "save", (x, n) -> x.save(n[0]), 0, 1, BAD_VALUE);
        Due.sentence("25: BAD_VALUE if there is no such slot; NOT_POSSIBLE if nothing was saved in it");
        numbers(state, "restore", (x, n) -> x.restore(n[0]), 0, 1, BAD_VALUE);
    }

    /** The ranges are the least and the greatest value that is taken, and the error, of each number. */
    private static void numbers(State state, String name, CallWithNumbers call, int... ranges) {
        int many = ranges.length / 3;
        List<List<Integer>> choices = new ArrayList<>();
        for (int i = 0; i < many; i++) {
            choices.add(edges(ranges[3 * i], ranges[3 * i + 1]));
        }
        combine(state, name, call, ranges, choices, new int[many], 0);
        for (int i = 0; i < many; i++) {
            for (int far : FAR) {
                if (far < ranges[3 * i] || far > ranges[3 * i + 1]) {
                    oneFar(state, name, call, ranges, i, far);
                }
            }
        }
    }

    private static List<Integer> edges(int low, int high) {
        List<Integer> edges = new ArrayList<>();
        edges.add(low - 1);
        if (high < MOST) {
            edges.add(high + 1);
        }
        if (low <= high) {
            edges.add(low);
            edges.add(high);
        }
        return edges;
    }

    private static void combine(State state, String name, CallWithNumbers call, int[] ranges,
            List<List<Integer>> choices, int[] numbers, int at) {
        if (at < numbers.length) {
            for (int number : choices.get(at)) {
                numbers[at] = number;
                combine(state, name, call, ranges, choices, numbers, at + 1);
            }
            return;
        }
        int error = firstError(ranges, numbers);
        if (error != 0) {
            int[] own = numbers.clone();
            refuse(state, name + Arrays.toString(own).replace(" ", ""), x -> call.on(x, own), error);
        }
    }

    private static void oneFar(State state, String name, CallWithNumbers call, int[] ranges, int at, int far) {
        int[] numbers = new int[ranges.length / 3];
        for (int i = 0; i < numbers.length; i++) {
            numbers[i] = ranges[3 * i];
        }
        numbers[at] = far;
        int error = firstError(ranges, numbers);
        refuse(state, name + Arrays.toString(numbers).replace(" ", ""), x -> call.on(x, numbers), error);
    }

    /** NO_SUCH is named, and so checked, ahead of BAD_VALUE by every call that has both. */
    private static int firstError(int[] ranges, int[] numbers) {
        int first = 0;
        for (int i = 0; i < numbers.length; i++) {
            boolean isOut = numbers[i] < ranges[3 * i] || numbers[i] > ranges[3 * i + 1];
            if (isOut && first != NO_SUCH) {
                first = ranges[3 * i + 2];
            }
        }
        return first;
    }

    private static void severalErrorsOfState(State state) {
        switch (state) {
            case NEW -> ofNew(state);
            case ORDINARY -> ofOrdinary(state);
            case FULL -> ofFull(state);
            case WITHOUT_HISTORY -> ofWithoutHistory(state);
        }
        Due.sentence("9: NOT_POSSIBLE if it is so already");
        int open = state.make().count(7);
        for (int hall = 0; hall < 4; hall++) {
            int h = hall;
            boolean isOpen = (open >> hall & 1) == 1;
            refuse(state, "open(" + h + "," + isOpen + ")", x -> x.open(h, isOpen), NOT_POSSIBLE);
        }
        Due.sentence("20: BAD_VALUE if there is no character, a code is not 33 to 126, or a bit above is not 0");
        long[] bad = {0, 32, 127, 128, 255, 1, -1, Long.MIN_VALUE, Long.MAX_VALUE, 1L << 32, 1L << 63 | 'a',
            1L << 16 | 'a', 'a' << 8, (long) 'a' << 56, Schools.word("abcdefg") << 8, Schools.word("aaaaaaaa") | 0x80};
        for (long characters : bad) {
            refuse(state, "put(" + characters + ")", x -> x.put(characters), BAD_VALUE);
        }
    }

    private static void ofNew(State state) {
        Due.sentence("5: BAD_TEXT if the pad has a fault (empty: at 0)");
        refuse(state, "read of nothing", ExamHalls::read, BAD_TEXT);
        Due.sentence("23: NOT_POSSIBLE if there is none");
        refuse(state, "undo of nothing", ExamHalls::undo, NOT_POSSIBLE);
        Due.sentence("25: NOT_POSSIBLE if nothing was saved in it");
        refuse(state, "restore of nothing", x -> x.restore(0), NOT_POSSIBLE);
        refuse(state, "restore of nothing", x -> x.restore(1), NOT_POSSIBLE);
    }

    private static void ofOrdinary(State state) {
        Due.sentence("12: NOT_POSSIBLE if the pupil does not sit the paper");
        for (int what = 0; what <= 5; what++) {
            int w = what;
            refuse(state, "sitting(0,2," + w + ")", x -> x.sitting(0, 2, w), NOT_POSSIBLE);
            refuse(state, "sitting(3,0," + w + ")", x -> x.sitting(3, 0, w), NOT_POSSIBLE);
        }
        Due.sentence("12: BAD_VALUE ahead of NOT_POSSIBLE, NO_SUCH ahead of both");
        refuse(state, "sitting(0,2,6)", x -> x.sitting(0, 2, 6), BAD_VALUE);
        refuse(state, "sitting(0,2,-1)", x -> x.sitting(0, 2, -1), BAD_VALUE);
        refuse(state, "sitting(5,2,6)", x -> x.sitting(5, 2, 6), NO_SUCH);
        refuse(state, "sitting(0,6,6)", x -> x.sitting(0, 6, 6), NO_SUCH);
        Due.sentence("25: NOT_POSSIBLE if nothing was saved in it");
        refuse(state, "restore(1)", x -> x.restore(1), NOT_POSSIBLE);
    }

    private static void ofFull(State state) {
        Due.sentence("4: TOO_MANY if there are 16");
        refuse(state, "pupil", x -> x.pupil(1, 0, false), TOO_MANY);
        refuse(state, "pupil", x -> x.pupil(63, 100, true), TOO_MANY);
        Due.sentence("4: BAD_VALUE ahead of TOO_MANY");
        refuse(state, "pupil(0,0)", x -> x.pupil(0, 0, false), BAD_VALUE);
        refuse(state, "pupil(1,101)", x -> x.pupil(1, 101, false), BAD_VALUE);
        Due.sentence("5: BAD_TEXT ahead of TOO_MANY");
        refuse(state, "read", ExamHalls::read, BAD_TEXT);
        Due.sentence("20: TOO_MANY if the pad would be longer than 60");
        for (int many = 1; many <= 8; many++) {
            long characters = Schools.word("abcdefgh".substring(0, many));
            refuse(state, "put of " + many, x -> x.put(characters), TOO_MANY);
        }
        Due.sentence("20: BAD_VALUE ahead of TOO_MANY");
        refuse(state, "put of a blank", x -> x.put(Schools.word("a b")), BAD_VALUE);
        refuse(state, "put of nothing", x -> x.put(0), BAD_VALUE);
    }

    private static void ofWithoutHistory(State state) {
        Due.sentence("23: NOT_POSSIBLE if there is none");
        refuse(state, "undo", ExamHalls::undo, NOT_POSSIBLE);
        Due.sentence("25: NOT_POSSIBLE if nothing was saved in it, BAD_VALUE ahead of it");
        refuse(state, "restore(0)", x -> x.restore(0), NOT_POSSIBLE);
        refuse(state, "restore(2)", x -> x.restore(2), BAD_VALUE);
    }

    /** What the four states can't show: a pad without a fault that is too long for the pupils that are there. */
    private static void padsThatAreTooLong() {
        Due.sentence("5: TOO_MANY if there would be more than 16, and the pad and the pupils stay");
        for (int pupils = 14; pupils <= 16; pupils++) {
            ExamHalls x = Schools.withPupils(pupils, Schools.A, 0, false);
            String text = "b+1r;cd+20;f".substring(pupils == 14 ? 0 : pupils == 15 ? 5 : 11);
            Schools.type(x, text);
            String before = Schools.shortView(x);
            Due.is("read of " + text + " to " + pupils, x.read(), TOO_MANY);
            Due.isSame("after it", Schools.shortView(x), before);
            Due.is("pad after it", x.count(11), text.length());
            Due.is("the latest change is the one before it", x.undo(), 5);
            Due.is("a place for one", x.count(3), pupils - 1);
            Due.is("read again", x.read(), 16);
            Due.is("the last one of the same text", x.pupilOf(15, 0), Schools.F);
        }
    }
}
