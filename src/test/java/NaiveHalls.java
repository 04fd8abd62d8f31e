import java.util.ArrayList;
import java.util.List;
import java.util.regex.Pattern;

/**
 * The document once more, as slowly and as literally as it can be read: RandomRunsTest holds ExamHalls against it.
 * It shares no code and no shortcut with ExamHalls.
 */
final class NaiveHalls {
    static final int NO_SUCH = -1, BAD_VALUE = -2, BAD_TEXT = -3, TOO_MANY = -4, NOT_POSSIBLE = -5, NONE = -6;

    /** An unchanging pupil. */
    record Pupil(int papers, int extra, boolean needsReader) {
    }

    /** A seated or unseated sitting. */
    static final class Sitting {
        int pupil, paper, begin, end, hall = NONE, desk = NONE, room = NONE;
        boolean needsReader;

        boolean hasPlace() {
            return hall != NONE || room != NONE;
        }

        boolean isAt(int minute) {
            return begin <= minute && minute < end;
        }
    }

    /** What is saved and undone. */
    static final class State {
        int spread = 1, rooms = 1, gap = 10;
        int[] start = new int[6];
        int[] minutes = {60, 60, 60, 60, 60, 60};
        List<Pupil> pupils = new ArrayList<>();
        int[] rows = {2, 2, 2, 2};
        int[] columns = {2, 2, 2, 2};
        boolean[] isOpen = {true, false, false, false};

        State copy() {
            State s = new State();
            s.spread = spread;
            s.rooms = rooms;
            s.gap = gap;
            s.start = start.clone();
            s.minutes = minutes.clone();
            s.pupils = new ArrayList<>(pupils);
            s.rows = rows.clone();
            s.columns = columns.clone();
            s.isOpen = isOpen.clone();
            return s;
        }

        int desks(int hall) {
            return rows[hall] * columns[hall];
        }

        boolean apart(Sitting earlier, Sitting own) {
            return earlier.end <= own.begin - gap || earlier.begin >= own.end + gap;
        }

        /** All sittings, in the order in which they are seated, each with its place. */
        List<Sitting> seat() {
            List<Sitting> all = new ArrayList<>();
            for (int paper = 0; paper < 6; paper++) {
                for (int pupil = 0; pupil < pupils.size(); pupil++) {
                    Pupil p = pupils.get(pupil);
                    if ((p.papers() & 1 << paper) != 0) {
                        Sitting s = new Sitting();
                        s.pupil = pupil;
                        s.paper = paper;
                        s.begin = start[paper] * 30;
                        s.end = s.begin + (int) Math.ceil(minutes[paper] * (100 + p.extra()) / 100.0 - 1e-9);
                        s.needsReader = p.needsReader();
                        all.add(s);
                    }
                }
            }
            all.sort((a, b) -> a.begin != b.begin ? a.begin - b.begin
                    : a.paper != b.paper ? a.paper - b.paper : a.pupil - b.pupil);
            for (int i = 0; i < all.size(); i++) {
                List<Sitting> ahead = all.subList(0, i);
                Sitting own = all.get(i);
                if (own.needsReader) {
                    giveRoom(own, ahead);
                } else {
                    giveDesk(own, ahead);
                }
            }
            return all;
        }

        private void giveRoom(Sitting own, List<Sitting> ahead) {
            for (int room = 0; room < rooms; room++) {
                final int r = room;
                if (ahead.stream().filter(s -> s.room == r).allMatch(s -> apart(s, own))) {
                    own.room = room;
                    return;
                }
            }
        }

        private void giveDesk(Sitting own, List<Sitting> ahead) {
            for (int hall = 0; hall < 4; hall++) {
                for (int desk = 0; isOpen[hall] && desk < desks(hall); desk++) {
                    final int h = hall;
                    final int d = desk;
                    boolean free = ahead.stream().filter(s -> s.hall == h && s.desk == d).allMatch(s -> apart(s, own));
                    boolean beside = ahead.stream()
                            .anyMatch(s -> s.hall == h && s.paper == own.paper && areBeside(h, s.desk, d));
                    if (free && !(spread == 1 && beside)) {
                        own.hall = hall;
                        own.desk = desk;
                        return;
                    }
                }
            }
        }

        private boolean areBeside(int hall, int one, int other) {
            int y = one / columns[hall] - other / columns[hall];
            int x = one % columns[hall] - other % columns[hall];
            return Math.abs(y) + Math.abs(x) == 1;
        }
    }

    private State state = new State();
    private final List<State> history = new ArrayList<>();
    private final State[] slots = new State[2];
    private String pad = "";

    private static boolean in(int value, int low, int high) {
        return low <= value && value <= high;
    }

    private void record() {
        history.add(state.copy());
        if (history.size() > 6) {
            history.remove(0);
        }
    }

    private static boolean clash(Sitting a, Sitting b) {
        return a.pupil == b.pupil && a.paper != b.paper && !(a.end <= b.begin) && !(b.end <= a.begin);
    }

    private static int clashes(State state, int pupil) {
        int both = 0;
        List<Sitting> all = state.seat();
        for (Sitting a : all) {
            for (Sitting b : all) {
                both += (pupil == NONE || a.pupil == pupil) && clash(a, b) ? 1 : 0;
            }
        }
        return both / 2;
    }

    private static int unplaced(State state) {
        return (int) state.seat().stream().filter(s -> !s.hasPlace()).count();
    }

    private static int lastEnd(State state) {
        return state.seat().stream().mapToInt(s -> s.end).max().orElse(0);
    }

    private static int openDesks(State state) {
        int sum = 0;
        for (int hall = 0; hall < 4; hall++) {
            sum += state.isOpen[hall] ? state.desks(hall) : 0;
        }
        return sum;
    }

    private static int openSet(State state) {
        int set = 0;
        for (int hall = 0; hall < 4; hall++) {
            set |= state.isOpen[hall] ? 1 << hall : 0;
        }
        return set;
    }

    int set(int setting, int value) {
        int[] highest = {1, 6, 60};
        if (!in(setting, 0, 2) || !in(value, 0, highest[setting])) {
            return BAD_VALUE;
        }
        int before = count(setting);
        record();
        if (setting == 0) {
            state.spread = value;
        } else if (setting == 1) {
            state.rooms = value;
        } else {
            state.gap = value;
        }
        return before;
    }

    int paper(int paper, int start, int minutes) {
        if (!in(paper, 0, 5)) {
            return NO_SUCH;
        }
        if (!in(start, 0, 19) || !in(minutes, 30, 180)) {
            return BAD_VALUE;
        }
        record();
        int before = state.start[paper];
        state.start[paper] = start;
        state.minutes[paper] = minutes;
        return before;
    }

    int pupil(int papers, int extra, boolean needsReader) {
        if (!in(papers, 1, 63) || !in(extra, 0, 100)) {
            return BAD_VALUE;
        }
        if (state.pupils.size() == 16) {
            return TOO_MANY;
        }
        record();
        state.pupils.add(new Pupil(papers, extra, needsReader));
        return state.pupils.size() - 1;
    }

    int read() {
        if (fault() != NONE) {
            return BAD_TEXT;
        }
        String[] parts = pad.split(";");
        if (state.pupils.size() + parts.length > 16) {
            return TOO_MANY;
        }
        record();
        for (String part : parts) {
            boolean needsReader = part.endsWith("r");
            String rest = needsReader ? part.substring(0, part.length() - 1) : part;
            String[] halves = rest.split("\\+");
            int papers = 0;
            for (char c : halves[0].toCharArray()) {
                papers += 1 << c - 'a';
            }
            state.pupils.add(new Pupil(papers, halves.length > 1 ? Integer.parseInt(halves[1]) : 0, needsReader));
        }
        pad = "";
        return state.pupils.size();
    }

    int change(int pupil, int papers, int extra, boolean needsReader) {
        if (!in(pupil, 0, state.pupils.size() - 1)) {
            return NO_SUCH;
        }
        if (!in(papers, 1, 63) || !in(extra, 0, 100)) {
            return BAD_VALUE;
        }
        record();
        state.pupils.set(pupil, new Pupil(papers, extra, needsReader));
        return clashes(state, pupil);
    }

    int leave(int pupil) {
        if (!in(pupil, 0, state.pupils.size() - 1)) {
            return NO_SUCH;
        }
        record();
        return state.pupils.remove(pupil).papers();
    }

    int hall(int hall, int rows, int columns) {
        if (!in(hall, 0, 3)) {
            return NO_SUCH;
        }
        if (!in(rows, 1, 4) || !in(columns, 1, 4)) {
            return BAD_VALUE;
        }
        record();
        int before = state.desks(hall);
        state.rows[hall] = rows;
        state.columns[hall] = columns;
        return before;
    }

    int open(int hall, boolean isOpen) {
        if (!in(hall, 0, 3)) {
            return NO_SUCH;
        }
        if (state.isOpen[hall] == isOpen) {
            return NOT_POSSIBLE;
        }
        record();
        state.isOpen[hall] = isOpen;
        return unplaced(state);
    }

    int pupilOf(int pupil, int what) {
        if (!in(pupil, 0, state.pupils.size() - 1)) {
            return NO_SUCH;
        }
        Pupil p = state.pupils.get(pupil);
        return switch (what) {
            case 0 -> p.papers();
            case 1 -> p.extra();
            case 2 -> p.needsReader() ? 1 : 0;
            case 3 -> clashes(state, pupil);
            case 4 -> state.seat().stream().filter(s -> s.pupil == pupil && !s.hasPlace())
                    .mapToInt(s -> 1 << s.paper).sum();
            case 5 -> state.seat().stream().filter(s -> s.pupil == pupil).mapToInt(s -> s.end - s.begin).sum();
            default -> BAD_VALUE;
        };
    }

    int paperOf(int paper, int what) {
        if (!in(paper, 0, 5)) {
            return NO_SUCH;
        }
        List<Sitting> own = state.seat().stream().filter(s -> s.paper == paper).toList();
        return switch (what) {
            case 0 -> state.start[paper];
            case 1 -> state.minutes[paper];
            case 2 -> own.stream().mapToInt(s -> 1 << s.pupil).sum();
            case 3 -> own.stream().mapToInt(s -> s.end).max().orElse(NONE);
            case 4 -> (int) own.stream().filter(s -> !s.hasPlace()).count();
            case 5 -> own.stream().filter(s -> s.hall != NONE).mapToInt(s -> 1 << s.hall).distinct().sum();
            default -> BAD_VALUE;
        };
    }

    int sitting(int pupil, int paper, int what) {
        if (!in(pupil, 0, state.pupils.size() - 1) || !in(paper, 0, 5)) {
            return NO_SUCH;
        }
        if (!in(what, 0, 5)) {
            return BAD_VALUE;
        }
        List<Sitting> all = state.seat();
        for (Sitting s : all) {
            if (s.pupil == pupil && s.paper == paper) {
                return switch (what) {
                    case 0 -> s.begin;
                    case 1 -> s.end;
                    case 2 -> s.hall;
                    case 3 -> s.desk;
                    case 4 -> s.room;
                    default -> all.stream().filter(o -> clash(s, o)).mapToInt(o -> 1 << o.paper).sum();
                };
            }
        }
        return NOT_POSSIBLE;
    }

    int hallOf(int hall, int what) {
        if (!in(hall, 0, 3)) {
            return NO_SUCH;
        }
        switch (what) {
            case 0:
                return state.rows[hall];
            case 1:
                return state.columns[hall];
            case 2:
                return state.isOpen[hall] ? 1 : 0;
            case 3:
                return (int) state.seat().stream().filter(s -> s.hall == hall).count();
            case 4:
                List<Sitting> own = state.seat().stream().filter(s -> s.hall == hall).toList();
                int most = 0;
                for (int minute = 0; minute < 1000; minute++) {
                    int m = minute;
                    int taken = (int) own.stream().filter(s -> s.isAt(m)).map(s -> s.desk).distinct().count();
                    most = Math.max(most, taken);
                }
                return most;
            default:
                return BAD_VALUE;
        }
    }

    int count(int what) {
        switch (what) {
            case 0:
                return state.spread;
            case 1:
                return state.rooms;
            case 2:
                return state.gap;
            case 3:
                return state.pupils.size();
            case 4:
                return state.seat().size();
            case 5:
                return unplaced(state);
            case 6:
                return clashes(state, NONE);
            case 7:
                return openSet(state);
            case 8:
                return openDesks(state);
            case 9:
                List<Sitting> own = state.seat().stream().filter(s -> s.needsReader).toList();
                int most = 0;
                for (int minute = 0; minute < 1000; minute++) {
                    int m = minute;
                    most = Math.max(most, (int) own.stream().filter(s -> s.isAt(m)).count());
                }
                return most;
            case 10:
                return lastEnd(state);
            case 11:
                return pad.length();
            case 12:
                return history.size();
            default:
                return BAD_VALUE;
        }
    }

    int at(int hall, int desk, int minute) {
        if (!in(hall, 0, 3) || !in(desk, 0, state.desks(hall) - 1)) {
            return NO_SUCH;
        }
        if (minute < 0) {
            return BAD_VALUE;
        }
        return state.seat().stream().filter(s -> s.hall == hall && s.desk == desk && s.isAt(minute))
                .mapToInt(s -> 6 * s.pupil + s.paper).findFirst().orElse(NONE);
    }

    int ifStart(int paper, int start, int what) {
        if (!in(paper, 0, 5)) {
            return NO_SUCH;
        }
        if (!in(start, 0, 19) || !in(what, 0, 2)) {
            return BAD_VALUE;
        }
        State other = state.copy();
        other.start[paper] = start;
        return what == 0 ? clashes(other, NONE) : what == 1 ? unplaced(other) : lastEnd(other);
    }

    int bestStart(int paper) {
        if (!in(paper, 0, 5)) {
            return NO_SUCH;
        }
        int best = NONE;
        long bestKey = Long.MAX_VALUE;
        for (int start = 0; start < 20; start++) {
            long key = ifStart(paper, start, 0) * 1_000_000L + ifStart(paper, start, 1) * 1_000L + start;
            if (key < bestKey) {
                bestKey = key;
                best = start;
            }
        }
        return best;
    }

    int bestHalls(int what) {
        if (!in(what, 0, 1)) {
            return BAD_VALUE;
        }
        long bestKey = Long.MAX_VALUE;
        for (int set = 0; set < 16; set++) {
            State other = state.copy();
            for (int hall = 0; hall < 4; hall++) {
                other.isOpen[hall] = (set >> hall & 1) == 1;
            }
            bestKey = Math.min(bestKey, unplaced(other) * 1_000_000L + openDesks(other) * 1_000L + set);
        }
        return (int) (what == 0 ? bestKey % 1_000 : bestKey / 1_000_000);
    }

    int leastRooms() {
        for (int rooms = 0; rooms <= 6; rooms++) {
            State other = state.copy();
            other.rooms = rooms;
            if (other.seat().stream().allMatch(s -> !s.needsReader || s.hasPlace())) {
                return rooms;
            }
        }
        return NONE;
    }

    int put(long characters) {
        StringBuilder text = new StringBuilder();
        boolean isOver = false;
        for (int i = 0; i < 8; i++) {
            int code = (int) (characters >> 8 * i) & 255;
            if (code == 0) {
                isOver = true;
            } else if (isOver || code < 33 || code > 126) {
                return BAD_VALUE;
            } else {
                text.insert(0, (char) code);
            }
        }
        if (text.length() == 0) {
            return BAD_VALUE;
        }
        if (pad.length() + text.length() > 60) {
            return TOO_MANY;
        }
        pad += text;
        return pad.length();
    }

    int wipe() {
        int before = pad.length();
        pad = "";
        return before;
    }

    private static final String PUPIL = "(?=[a-f])a?b?c?d?e?f?(\\+([1-9][0-9]?|100))?r?";
    private static final Pattern TEXT = Pattern.compile(PUPIL + "(;" + PUPIL + ")*");

    private static boolean isText(String text) {
        return TEXT.matcher(text).matches();
    }

    /** A text can go on to a whole one if nothing, a letter or a digit more makes it one. */
    private static boolean canGoOn(String text) {
        return isText(text) || isText(text + "a") || isText(text + "1");
    }

    int fault() {
        for (int i = 0; i < pad.length(); i++) {
            if (!canGoOn(pad.substring(0, i + 1))) {
                return i;
            }
        }
        return isText(pad) ? NONE : pad.length();
    }

    int undo() {
        if (history.isEmpty()) {
            return NOT_POSSIBLE;
        }
        state = history.remove(history.size() - 1);
        return history.size();
    }

    int save(int slot) {
        if (!in(slot, 0, 1)) {
            return BAD_VALUE;
        }
        slots[slot] = state.copy();
        return state.pupils.size();
    }

    int restore(int slot) {
        if (!in(slot, 0, 1)) {
            return BAD_VALUE;
        }
        if (slots[slot] == null) {
            return NOT_POSSIBLE;
        }
        record();
        state = slots[slot].copy();
        return state.pupils.size();
    }
}
