/**
 * The exam halls of a school: who sits which paper, where and when.
 * ../shared/DOC.md says what every call answers; README.md tells how to use it.
 */
public final class ExamHalls {
    public static final int NO_SUCH = -1, BAD_VALUE = -2, BAD_TEXT = -3, TOO_MANY = -4, NOT_POSSIBLE = -5, NONE = -6;
    public static final int SPREAD = 0, ROOMS = 1, GAP = 2;

    private static final int SETTINGS = 3;
    private static final int[] HIGHEST_SETTINGS = {1, 6, 60};
    private static final int PAPERS = 6;
    private static final int PAPER_SETS = 1 << PAPERS;
    private static final int STARTS = 20;
    private static final int LEAST_MINUTES = 30, MOST_MINUTES = 180;
    private static final int MOST_PUPILS = 16;
    private static final int MOST_EXTRA = 100;
    private static final int SITTINGS = MOST_PUPILS * PAPERS;
    private static final int HALLS = 4;
    private static final int HALL_SETS = 1 << HALLS;
    private static final int MOST_ROWS = 4, MOST_COLUMNS = 4;
    private static final int HALL_DESKS = MOST_ROWS * MOST_COLUMNS;
    private static final int MOST_ROOMS = 6;
    private static final int PAD_SIZE = 60;
    private static final int WORD_SIZE = 8;
    private static final int FIRST_SIGN = 33, LAST_SIGN = 126;
    private static final int SLOTS = 2;
    private static final int HISTORY_SIZE = 6;
    private static final int UNREACHED = 1000;

    private final Seating seating = new Seating();
    private final School school = seating.school;
    // What-if calls work on a copy of their own, made once: a run of calls makes no new objects.
    private final Seating trialSeating = new Seating();
    private final School trial = trialSeating.school;
    private final Pad pad = new Pad();
    private final History history = new History();
    private final School[] slots = {new School(), new School()};
    private final boolean[] slotIsUsed = new boolean[SLOTS];

    public ExamHalls() {
        seating.seatAll();
    }

    // ---- changes

    public int set(int setting, int value) {
        if (!isWithin(setting, 0, SETTINGS - 1) || !isWithin(value, 0, HIGHEST_SETTINGS[setting])) {
            return BAD_VALUE;
        }
        int before = school.settings[setting];
        history.remember(school);
        school.settings[setting] = value;
        seating.seatAll();
        return before;
    }

    public int paper(int paper, int start, int minutes) {
        if (!isPaper(paper)) {
            return NO_SUCH;
        }
        if (!isStart(start) || !isWithin(minutes, LEAST_MINUTES, MOST_MINUTES)) {
            return BAD_VALUE;
        }
        int before = school.starts[paper];
        history.remember(school);
        school.starts[paper] = start;
        school.minutes[paper] = minutes;
        seating.seatAll();
        return before;
    }

    public int pupil(int papers, int extra, boolean needsReader) {
        if (!isPupilData(papers, extra)) {
            return BAD_VALUE;
        }
        if (school.pupils >= MOST_PUPILS) {
            return TOO_MANY;
        }
        int number = school.pupils;
        history.remember(school);
        school.addPupil(papers, extra, needsReader);
        seating.seatAll();
        return number;
    }

    public int read() {
        if (pad.findFault() != NONE) {
            return BAD_TEXT;
        }
        if (school.pupils + pad.found > MOST_PUPILS) {
            return TOO_MANY;
        }
        history.remember(school);
        for (int i = 0; i < pad.found && i < MOST_PUPILS; i++) {
            school.addPupil(pad.foundPapers[i], pad.foundExtras[i], pad.foundReaders[i]);
        }
        pad.length = 0;
        seating.seatAll();
        return school.pupils;
    }

    public int change(int pupil, int papers, int extra, boolean needsReader) {
        if (!isPupil(pupil)) {
            return NO_SUCH;
        }
        if (!isPupilData(papers, extra)) {
            return BAD_VALUE;
        }
        history.remember(school);
        school.writePupil(pupil, papers, extra, needsReader);
        seating.seatAll();
        return school.clashesOf(pupil);
    }

    public int leave(int pupil) {
        if (!isPupil(pupil)) {
            return NO_SUCH;
        }
        int papers = school.papers[pupil];
        history.remember(school);
        school.removePupil(pupil);
        seating.seatAll();
        return papers;
    }

    public int hall(int hall, int rows, int columns) {
        if (!isHall(hall)) {
            return NO_SUCH;
        }
        if (!isWithin(rows, 1, MOST_ROWS) || !isWithin(columns, 1, MOST_COLUMNS)) {
            return BAD_VALUE;
        }
        int before = school.desksOf(hall);
        history.remember(school);
        school.rows[hall] = rows;
        school.columns[hall] = columns;
        seating.seatAll();
        return before;
    }

    public int open(int hall, boolean isOpen) {
        if (!isHall(hall)) {
            return NO_SUCH;
        }
        if (school.isOpen(hall) == isOpen) {
            return NOT_POSSIBLE;
        }
        history.remember(school);
        school.openHalls ^= 1 << hall;
        seating.seatAll();
        return seating.unplaced;
    }

    // ---- what there is; nothing changes

    public int pupilOf(int pupil, int what) {
        if (!isPupil(pupil)) {
            return NO_SUCH;
        }
        switch (what) {
            case 0:
                return school.papers[pupil];
            case 1:
                return school.extras[pupil];
            case 2:
                return school.readers[pupil] ? 1 : 0;
            case 3:
                return school.clashesOf(pupil);
            case 4:
                return seating.unplacedPapersOf(pupil);
            case 5:
                return school.minutesOf(pupil);
            default:
                return BAD_VALUE;
        }
    }

    public int paperOf(int paper, int what) {
        if (!isPaper(paper)) {
            return NO_SUCH;
        }
        switch (what) {
            case 0:
                return school.starts[paper];
            case 1:
                return school.minutes[paper];
            case 2:
                return school.pupilsOf(paper);
            case 3:
                return school.lastEndOf(paper);
            case 4:
                return seating.unplacedOf(paper);
            case 5:
                return seating.hallsOf(paper);
            default:
                return BAD_VALUE;
        }
    }

    public int sitting(int pupil, int paper, int what) {
        if (!isPupil(pupil) || !isPaper(paper)) {
            return NO_SUCH;
        }
        if (!isWithin(what, 0, 5)) {
            return BAD_VALUE;
        }
        if (!school.sits(pupil, paper)) {
            return NOT_POSSIBLE;
        }
        int sitting = sittingNumber(pupil, paper);
        switch (what) {
            case 0:
                return school.beginOf(paper);
            case 1:
                return school.endOf(pupil, paper);
            case 2:
                return seating.halls[sitting];
            case 3:
                return seating.desks[sitting];
            case 4:
                return seating.rooms[sitting];
            default:
                return school.clashingPapers(pupil, paper);
        }
    }

    public int hallOf(int hall, int what) {
        if (!isHall(hall)) {
            return NO_SUCH;
        }
        switch (what) {
            case 0:
                return school.rows[hall];
            case 1:
                return school.columns[hall];
            case 2:
                return school.isOpen(hall) ? 1 : 0;
            case 3:
                return seating.seatedIn(hall);
            case 4:
                return seating.mostTakenIn(hall);
            default:
                return BAD_VALUE;
        }
    }

    public int count(int what) {
        switch (what) {
            case 0:
            case 1:
            case 2:
                return school.settings[what];
            case 3:
                return school.pupils;
            case 4:
                return school.sittings();
            case 5:
                return seating.unplaced;
            case 6:
                return school.clashes();
            case 7:
                return school.openHalls;
            case 8:
                return school.openDesks();
            case 9:
                return school.mostReaders();
            case 10:
                return school.lastEnd();
            case 11:
                return pad.length;
            case 12:
                return history.size;
            default:
                return BAD_VALUE;
        }
    }

    public int at(int hall, int desk, int minute) {
        if (!isHall(hall) || !isWithin(desk, 0, school.desksOf(hall) - 1)) {
            return NO_SUCH;
        }
        if (minute < 0) {
            return BAD_VALUE;
        }
        return seating.sittingAt(hall, desk, minute);
    }

    // ---- what if; nothing changes

    public int ifStart(int paper, int start, int what) {
        if (!isPaper(paper)) {
            return NO_SUCH;
        }
        if (!isStart(start) || !isWithin(what, 0, 2)) {
            return BAD_VALUE;
        }
        trial.copyFrom(school);
        trial.starts[paper] = start;
        switch (what) {
            case 0:
                return trial.clashes();
            case 1:
                trialSeating.seatAll();
                return trialSeating.unplaced;
            default:
                return trial.lastEnd();
        }
    }

    public int bestStart(int paper) {
        if (!isPaper(paper)) {
            return NO_SUCH;
        }
        int best = 0;
        int fewestClashes = UNREACHED;
        int fewestUnplaced = UNREACHED;
        trial.copyFrom(school);
        for (int start = 0; start < STARTS; start++) {
            trial.starts[paper] = start;
            int clashes = trial.clashes();
            if (clashes > fewestClashes) {
                continue;
            }
            trialSeating.seatAll();
            if (clashes < fewestClashes || trialSeating.unplaced < fewestUnplaced) {
                best = start;
                fewestClashes = clashes;
                fewestUnplaced = trialSeating.unplaced;
            }
        }
        return best;
    }

    public int bestHalls(int what) {
        if (!isWithin(what, 0, 1)) {
            return BAD_VALUE;
        }
        int best = 0;
        int fewestUnplaced = UNREACHED;
        int fewestDesks = UNREACHED;
        trial.copyFrom(school);
        for (int halls = 0; halls < HALL_SETS; halls++) {
            trial.openHalls = halls;
            trialSeating.seatAll();
            int unplaced = trialSeating.unplaced;
            int desks = trial.openDesks();
            if (unplaced < fewestUnplaced || (unplaced == fewestUnplaced && desks < fewestDesks)) {
                best = halls;
                fewestUnplaced = unplaced;
                fewestDesks = desks;
            }
        }
        return what == 0 ? best : fewestUnplaced;
    }

    public int leastRooms() {
        trial.copyFrom(school);
        for (int rooms = 0; rooms <= MOST_ROOMS; rooms++) {
            trial.settings[ROOMS] = rooms;
            trialSeating.seatAll();
            if (trialSeating.unplacedReaders == 0) {
                return rooms;
            }
        }
        return NONE;
    }

    // ---- texts

    public int put(long characters) {
        int added = charactersIn(characters);
        if (added == 0) {
            return BAD_VALUE;
        }
        if (pad.length + added > PAD_SIZE) {
            return TOO_MANY;
        }
        pad.append(characters, added);
        return pad.length;
    }

    public int wipe() {
        int before = pad.length;
        pad.length = 0;
        return before;
    }

    public int fault() {
        return pad.findFault();
    }

    // ---- undo, saving

    public int undo() {
        if (history.size == 0) {
            return NOT_POSSIBLE;
        }
        history.takeBack(school);
        seating.seatAll();
        return history.size;
    }

    public int save(int slot) {
        if (!isSlot(slot)) {
            return BAD_VALUE;
        }
        slots[slot].copyFrom(school);
        slotIsUsed[slot] = true;
        return school.pupils;
    }

    public int restore(int slot) {
        if (!isSlot(slot)) {
            return BAD_VALUE;
        }
        if (!slotIsUsed[slot]) {
            return NOT_POSSIBLE;
        }
        history.remember(school);
        school.copyFrom(slots[slot]);
        seating.seatAll();
        return school.pupils;
    }

    // ---- tests of arguments

    private static boolean isWithin(int value, int least, int most) {
        return value >= least && value <= most;
    }

    private static boolean isPaper(int paper) {
        return isWithin(paper, 0, PAPERS - 1);
    }

    private static boolean isStart(int start) {
        return isWithin(start, 0, STARTS - 1);
    }

    private static boolean isHall(int hall) {
        return isWithin(hall, 0, HALLS - 1);
    }

    private static boolean isSlot(int slot) {
        return isWithin(slot, 0, SLOTS - 1);
    }

    private static boolean isPupilData(int papers, int extra) {
        return isWithin(papers, 1, PAPER_SETS - 1) && isWithin(extra, 0, MOST_EXTRA);
    }

    private boolean isPupil(int pupil) {
        return isWithin(pupil, 0, school.pupils - 1);
    }

    /** How many characters put() was given; 0 if there are none, or if they are not as they have to be. */
    private static int charactersIn(long characters) {
        for (int i = 0; i < WORD_SIZE; i++) {
            long rest = characters >>> (8 * i);
            if (rest == 0) {
                return i;
            }
            // 8 bits that are 0 with something above them are refused here, too.
            if (!isWithin((int) (rest & 255), FIRST_SIGN, LAST_SIGN)) {
                return 0;
            }
        }
        return WORD_SIZE;
    }

    private static int sittingNumber(int pupil, int paper) {
        return PAPERS * pupil + paper;
    }

    private static boolean contains(int set, int element) {
        return (set >> element & 1) == 1;
    }

    /** Everything that undo, save and restore bring back, and what follows from it without any seating. */
    private static final class School {
        final int[] settings = {1, 1, 10};
        final int[] starts = new int[PAPERS];
        final int[] minutes = {60, 60, 60, 60, 60, 60};
        final int[] papers = new int[MOST_PUPILS];
        final int[] extras = new int[MOST_PUPILS];
        final boolean[] readers = new boolean[MOST_PUPILS];
        final int[] rows = {2, 2, 2, 2};
        final int[] columns = {2, 2, 2, 2};
        int pupils = 0;
        int openHalls = 1;

        void copyFrom(School other) {
            for (int i = 0; i < SETTINGS; i++) {
                settings[i] = other.settings[i];
            }
            for (int i = 0; i < PAPERS; i++) {
                starts[i] = other.starts[i];
                minutes[i] = other.minutes[i];
            }
            for (int i = 0; i < MOST_PUPILS; i++) {
                papers[i] = other.papers[i];
                extras[i] = other.extras[i];
                readers[i] = other.readers[i];
            }
            for (int i = 0; i < HALLS; i++) {
                rows[i] = other.rows[i];
                columns[i] = other.columns[i];
            }
            pupils = other.pupils;
            openHalls = other.openHalls;
        }

        void addPupil(int itsPapers, int itsExtra, boolean needsReader) {
            if (pupils < MOST_PUPILS) {
                writePupil(pupils, itsPapers, itsExtra, needsReader);
                pupils++;
            }
        }

        void writePupil(int pupil, int itsPapers, int itsExtra, boolean needsReader) {
            papers[pupil] = itsPapers;
            extras[pupil] = itsExtra;
            readers[pupil] = needsReader;
        }

        void removePupil(int pupil) {
            for (int i = pupil; i < pupils - 1; i++) {
                writePupil(i, papers[i + 1], extras[i + 1], readers[i + 1]);
            }
            pupils--;
        }

        boolean sits(int pupil, int paper) {
            return contains(papers[pupil], paper);
        }

        int beginOf(int paper) {
            return 30 * starts[paper];
        }

        int lengthOf(int pupil, int paper) {
            return (minutes[paper] * (100 + extras[pupil]) + 99) / 100;
        }

        int endOf(int pupil, int paper) {
            return beginOf(paper) + lengthOf(pupil, paper);
        }

        boolean isSatAt(int pupil, int paper, int minute) {
            return beginOf(paper) <= minute && minute < endOf(pupil, paper);
        }

        int sittings() {
            int sum = 0;
            for (int pupil = 0; pupil < pupils; pupil++) {
                sum += Integer.bitCount(papers[pupil]);
            }
            return sum;
        }

        int minutesOf(int pupil) {
            int sum = 0;
            for (int paper = 0; paper < PAPERS; paper++) {
                if (sits(pupil, paper)) {
                    sum += lengthOf(pupil, paper);
                }
            }
            return sum;
        }

        int pupilsOf(int paper) {
            int set = 0;
            for (int pupil = 0; pupil < pupils; pupil++) {
                if (sits(pupil, paper)) {
                    set |= 1 << pupil;
                }
            }
            return set;
        }

        int clashingPapers(int pupil, int paper) {
            int set = 0;
            for (int other = 0; other < PAPERS; other++) {
                if (other != paper && sits(pupil, other)
                        && endOf(pupil, paper) > beginOf(other) && endOf(pupil, other) > beginOf(paper)) {
                    set |= 1 << other;
                }
            }
            return set;
        }

        int clashesOf(int pupil) {
            int bothWays = 0;
            for (int paper = 0; paper < PAPERS; paper++) {
                if (sits(pupil, paper)) {
                    bothWays += Integer.bitCount(clashingPapers(pupil, paper));
                }
            }
            return bothWays / 2;
        }

        int clashes() {
            int sum = 0;
            for (int pupil = 0; pupil < pupils; pupil++) {
                sum += clashesOf(pupil);
            }
            return sum;
        }

        int lastEndOf(int paper) {
            int last = NONE;
            for (int pupil = 0; pupil < pupils; pupil++) {
                if (sits(pupil, paper)) {
                    last = Math.max(last, endOf(pupil, paper));
                }
            }
            return last;
        }

        int lastEnd() {
            int last = 0;
            for (int paper = 0; paper < PAPERS; paper++) {
                last = Math.max(last, lastEndOf(paper));
            }
            return last;
        }

        int mostReaders() {
            int most = 0;
            // The number only grows at minutes at which a paper begins, so no other minute is looked at.
            for (int paper = 0; paper < PAPERS; paper++) {
                most = Math.max(most, readersAt(beginOf(paper)));
            }
            return most;
        }

        int readersAt(int minute) {
            int many = 0;
            for (int pupil = 0; pupil < pupils; pupil++) {
                for (int paper = 0; paper < PAPERS && readers[pupil]; paper++) {
                    if (sits(pupil, paper) && isSatAt(pupil, paper, minute)) {
                        many++;
                    }
                }
            }
            return many;
        }

        boolean isOpen(int hall) {
            return contains(openHalls, hall);
        }

        int desksOf(int hall) {
            return rows[hall] * columns[hall];
        }

        int openDesks() {
            int sum = 0;
            for (int hall = 0; hall < HALLS; hall++) {
                if (isOpen(hall)) {
                    sum += desksOf(hall);
                }
            }
            return sum;
        }
    }

    /** Where the sittings of a school are seated. */
    private static final class Seating {
        // So long before the first sitting that no gap reaches back to it.
        static final int NEVER_TAKEN = -1000;

        final School school = new School();
        // Each sitting's place, by its number; NONE where it has no such place.
        final int[] halls = new int[SITTINGS];
        final int[] desks = new int[SITTINGS];
        final int[] rooms = new int[SITTINGS];
        int unplaced = 0;
        int unplacedReaders = 0;

        // As the sittings are seated by their starts, none that is seated begins after the end of the next one;
        // and as they have to be apart, the one that was seated last at a place is the one that ends last there.
        private final int[] deskEnds = new int[HALLS * HALL_DESKS];
        private final int[] deskPapers = new int[HALLS * HALL_DESKS];
        private final int[] roomEnds = new int[MOST_ROOMS];

        void seatAll() {
            clear();
            for (int start = 0; start < STARTS; start++) {
                for (int paper = 0; paper < PAPERS; paper++) {
                    if (school.starts[paper] == start) {
                        seatPupils(paper);
                    }
                }
            }
        }

        private void clear() {
            for (int i = 0; i < SITTINGS; i++) {
                halls[i] = NONE;
                desks[i] = NONE;
                rooms[i] = NONE;
            }
            for (int i = 0; i < HALLS * HALL_DESKS; i++) {
                deskEnds[i] = NEVER_TAKEN;
                deskPapers[i] = 0;
            }
            for (int i = 0; i < MOST_ROOMS; i++) {
                roomEnds[i] = NEVER_TAKEN;
            }
            unplaced = 0;
            unplacedReaders = 0;
        }

        private void seatPupils(int paper) {
            for (int pupil = 0; pupil < school.pupils; pupil++) {
                if (school.sits(pupil, paper)) {
                    if (school.readers[pupil]) {
                        seatInRoom(pupil, paper);
                    } else {
                        seatAtDesk(pupil, paper);
                    }
                }
            }
        }

        private void seatInRoom(int pupil, int paper) {
            for (int room = 0; room < school.settings[ROOMS] && room < MOST_ROOMS; room++) {
                if (isEarlyEnough(roomEnds[room], paper)) {
                    rooms[sittingNumber(pupil, paper)] = room;
                    roomEnds[room] = school.endOf(pupil, paper);
                    return;
                }
            }
            unplaced++;
            unplacedReaders++;
        }

        private void seatAtDesk(int pupil, int paper) {
            for (int hall = 0; hall < HALLS; hall++) {
                int desk = school.isOpen(hall) ? firstDesk(hall, paper) : NONE;
                if (desk != NONE) {
                    int place = HALL_DESKS * hall + desk;
                    halls[sittingNumber(pupil, paper)] = hall;
                    desks[sittingNumber(pupil, paper)] = desk;
                    deskEnds[place] = school.endOf(pupil, paper);
                    deskPapers[place] |= 1 << paper;
                    return;
                }
            }
            unplaced++;
        }

        private int firstDesk(int hall, int paper) {
            for (int row = 0; row < school.rows[hall]; row++) {
                for (int column = 0; column < school.columns[hall]; column++) {
                    int desk = school.columns[hall] * row + column;
                    if (isEarlyEnough(deskEnds[HALL_DESKS * hall + desk], paper)
                            && (school.settings[SPREAD] == 0 || !isBeside(hall, row, column, paper))) {
                        return desk;
                    }
                }
            }
            return NONE;
        }

        private boolean isEarlyEnough(int end, int paper) {
            return end <= school.beginOf(paper) - school.settings[GAP];
        }

        private boolean isBeside(int hall, int row, int column, int paper) {
            int columns = school.columns[hall];
            int place = HALL_DESKS * hall + columns * row + column;
            return column > 0 && contains(deskPapers[place - 1], paper)
                    || column < columns - 1 && contains(deskPapers[place + 1], paper)
                    || row > 0 && contains(deskPapers[place - columns], paper)
                    || row < school.rows[hall] - 1 && contains(deskPapers[place + columns], paper);
        }

        boolean isUnplaced(int pupil, int paper) {
            int sitting = sittingNumber(pupil, paper);
            return school.sits(pupil, paper) && halls[sitting] == NONE && rooms[sitting] == NONE;
        }

        int unplacedPapersOf(int pupil) {
            int set = 0;
            for (int paper = 0; paper < PAPERS; paper++) {
                if (isUnplaced(pupil, paper)) {
                    set |= 1 << paper;
                }
            }
            return set;
        }

        int unplacedOf(int paper) {
            int many = 0;
            for (int pupil = 0; pupil < school.pupils; pupil++) {
                if (isUnplaced(pupil, paper)) {
                    many++;
                }
            }
            return many;
        }

        int hallsOf(int paper) {
            int set = 0;
            for (int pupil = 0; pupil < school.pupils; pupil++) {
                int hall = halls[sittingNumber(pupil, paper)];
                if (hall != NONE) {
                    set |= 1 << hall;
                }
            }
            return set;
        }

        int seatedIn(int hall) {
            int many = 0;
            for (int sitting = 0; sitting < SITTINGS; sitting++) {
                if (halls[sitting] == hall) {
                    many++;
                }
            }
            return many;
        }

        int mostTakenIn(int hall) {
            int most = 0;
            // As in mostReaders(): the number only grows at minutes at which a paper begins.
            for (int paper = 0; paper < PAPERS; paper++) {
                most = Math.max(most, takenIn(hall, school.beginOf(paper)));
            }
            return most;
        }

        private int takenIn(int hall, int minute) {
            int many = 0;
            for (int sitting = 0; sitting < SITTINGS; sitting++) {
                if (halls[sitting] == hall && isNow(sitting, minute)) {
                    many++;
                }
            }
            return many;
        }

        int sittingAt(int hall, int desk, int minute) {
            for (int sitting = 0; sitting < SITTINGS; sitting++) {
                if (halls[sitting] == hall && desks[sitting] == desk && isNow(sitting, minute)) {
                    return sitting;
                }
            }
            return NONE;
        }

        private boolean isNow(int sitting, int minute) {
            return school.isSatAt(sitting / PAPERS, sitting % PAPERS, minute);
        }
    }

    /** The states before the latest changes, the oldest one first. */
    private static final class History {
        final School[] states = new School[HISTORY_SIZE];
        int size = 0;

        History() {
            for (int i = 0; i < HISTORY_SIZE; i++) {
                states[i] = new School();
            }
        }

        void remember(School school) {
            if (size == HISTORY_SIZE) {
                dropOldest();
            }
            states[size].copyFrom(school);
            size++;
        }

        private void dropOldest() {
            School oldest = states[0];
            for (int i = 0; i < HISTORY_SIZE - 1; i++) {
                states[i] = states[i + 1];
            }
            // Kept as a row to write on: no change makes a new one.
            states[HISTORY_SIZE - 1] = oldest;
            size--;
        }

        void takeBack(School school) {
            if (size > 0) {
                size--;
                school.copyFrom(states[size]);
            }
        }
    }

    /** The text, and the pupils that were found when it was read last. */
    private static final class Pad {
        static final int PUPIL_DUE = 0, IN_LETTERS = 1, NUMBER_DUE = 2, IN_NUMBER = 3, PUPIL_DONE = 4;
        static final int MOST_FOUND = (PAD_SIZE + 1) / 2;

        final int[] signs = new int[PAD_SIZE];
        int length = 0;

        final int[] foundPapers = new int[MOST_FOUND];
        final int[] foundExtras = new int[MOST_FOUND];
        final boolean[] foundReaders = new boolean[MOST_FOUND];
        int found = 0;

        private int state = PUPIL_DUE;
        private int papers = 0;
        private int extra = 0;
        private boolean needsReader = false;

        void append(long characters, int added) {
            for (int i = added - 1; i >= 0 && length < PAD_SIZE; i--) {
                signs[length] = (int) (characters >>> (8 * i) & 255);
                length++;
            }
        }

        /** Reads the text, and keeps the pupils that it finds. */
        int findFault() {
            found = 0;
            beginPupil();
            for (int i = 0; i < length && i < PAD_SIZE; i++) {
                if (!takes(signs[i])) {
                    return i;
                }
            }
            if (!mayEnd()) {
                return length;
            }
            endPupil();
            return NONE;
        }

        private void beginPupil() {
            state = PUPIL_DUE;
            papers = 0;
            extra = 0;
            needsReader = false;
        }

        private void endPupil() {
            if (found < MOST_FOUND) {
                foundPapers[found] = papers;
                foundExtras[found] = extra;
                foundReaders[found] = needsReader;
                found++;
            }
        }

        private boolean takes(int sign) {
            if (sign == ';') {
                return takesSemicolon();
            }
            if (sign == '+') {
                return takesPlus();
            }
            if (sign == 'r') {
                return takesReader();
            }
            return isWithin(sign, '0', '9') ? takesDigit(sign - '0') : takesLetter(sign - 'a');
        }

        private boolean mayEnd() {
            return state != PUPIL_DUE && state != NUMBER_DUE;
        }

        private boolean takesSemicolon() {
            if (!mayEnd()) {
                return false;
            }
            endPupil();
            beginPupil();
            return true;
        }

        private boolean takesPlus() {
            if (state != IN_LETTERS) {
                return false;
            }
            state = NUMBER_DUE;
            return true;
        }

        private boolean takesReader() {
            if (state != IN_LETTERS && state != IN_NUMBER) {
                return false;
            }
            needsReader = true;
            state = PUPIL_DONE;
            return true;
        }

        private boolean takesDigit(int digit) {
            if (state != NUMBER_DUE && state != IN_NUMBER) {
                return false;
            }
            int number = 10 * extra + digit;
            // A leading zero makes a number of 0, which is too little.
            if (!isWithin(number, 1, MOST_EXTRA)) {
                return false;
            }
            extra = number;
            state = IN_NUMBER;
            return true;
        }

        private boolean takesLetter(int paper) {
            if (state != PUPIL_DUE && state != IN_LETTERS) {
                return false;
            }
            // The letters ahead are all lower if nothing is left of the set from this one on.
            if (!isPaper(paper) || papers >> paper != 0) {
                return false;
            }
            papers |= 1 << paper;
            state = IN_LETTERS;
            return true;
        }
    }
}
