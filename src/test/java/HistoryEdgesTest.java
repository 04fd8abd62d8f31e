/** Promises 23 to 25 at their edges, a test for each sentence. RefusalsTest has the sentences on errors once more. */
public final class HistoryEdgesTest {
    private static final int NO_SUCH = -1, BAD_VALUE = -2, NOT_POSSIBLE = -5, NONE = -6;
    private static final int A = Schools.A, B = Schools.B, F = Schools.F;

    private HistoryEdgesTest() {
    }

    public static void main(String[] args) {
        undoOfNone();
        undoReturnsHowManyAreLeft();
        atMostSixStates();
        theOldestIsDropped();
        changesAfterUndo();
        changesThatMakeNoDifference();
        whatIsNoChange();
        errorsRecordNothing();
        undoBringsAllBack();
        undoLeavesPadAndSlots();
        undoSeatsAnew();
        saveReturnsHowManyPupils();
        saveOverwrites();
        saveOfEverything();
        saveErrors();
        restoreReturnsHowManyPupils();
        restoreKeepsTheSlot();
        restoreLeavesPadHistoryAndSlots();
        restoreIsAChange();
        restoreErrors();
        slotsShareNothing();
        Due.end();
    }

    // ---- promise 23

    private static void undoOfNone() {
        Due.sentence("23: NOT_POSSIBLE if there is none");
        ExamHalls x = new ExamHalls();
        Due.is("a new object", x.undo(), NOT_POSSIBLE);
        x.set(2, 5);
        Due.is("one", x.undo(), 0);
        Due.is("it is back", x.count(2), 10);
        Due.is("none left", x.undo(), NOT_POSSIBLE);
        Due.is("it stays", x.count(2), 10);
        Due.is("history", x.count(12), 0);
    }

    private static void undoReturnsHowManyAreLeft() {
        Due.sentence("23: Undoes the latest change. Returns how many changes can be undone then");
        for (int changes = 1; changes <= 6; changes++) {
            ExamHalls x = new ExamHalls();
            for (int i = 1; i <= changes; i++) {
                x.paper(0, i, 60);
            }
            for (int left = changes - 1; left >= 0; left--) {
                Due.is("left of " + changes, x.undo(), left);
                Due.is("start", x.paperOf(0, 0), left);
            }
            Due.is("none", x.undo(), NOT_POSSIBLE);
        }
    }

    private static void atMostSixStates() {
        Due.sentence("23: A history of at most 6 states is kept");
        for (int changes = 5; changes <= 20; changes++) {
            ExamHalls x = new ExamHalls();
            for (int i = 1; i <= changes; i++) {
                x.set(2, 20 + i);
            }
            int kept = Math.min(changes, 6);
            Due.is("kept of " + changes, x.count(12), kept);
            for (int left = kept - 1; left >= 0; left--) {
                Due.is("left of " + changes, x.undo(), left);
            }
            Due.is("none", x.undo(), NOT_POSSIBLE);
        }
    }

    private static void theOldestIsDropped() {
        Due.sentence("23: when one more is recorded, the oldest one is dropped");
        for (int changes = 6; changes <= 19; changes++) {
            ExamHalls x = new ExamHalls();
            for (int i = 1; i <= changes; i++) {
                x.paper(3, i, 30 + i);
            }
            for (int back = 1; back <= 6; back++) {
                x.undo();
                Due.is("start " + back + " changes back", x.paperOf(3, 0), changes - back);
                Due.is("minutes", x.paperOf(3, 1), changes == back ? 60 : 30 + changes - back);
            }
            Due.is("no further", x.undo(), NOT_POSSIBLE);
            Due.is("start", x.paperOf(3, 0), changes - 6);
        }
    }

    private static void changesAfterUndo() {
        Due.sentence("23: each method that is a change records the state before it (also behind an undo)");
        ExamHalls x = new ExamHalls();
        for (int i = 1; i <= 6; i++) {
            x.paper(0, i, 60);
        }
        Due.is("undo", x.undo(), 5);
        Due.is("undo", x.undo(), 4);
        Due.is("another change", x.paper(0, 14, 60), 4);
        Due.is("history", x.count(12), 5);
        Due.is("another change", x.paper(0, 15, 60), 14);
        Due.is("history, nothing dropped", x.count(12), 6);
        Due.is("another change", x.paper(0, 16, 60), 15);
        Due.is("history, the oldest one dropped", x.count(12), 6);
        int[] starts = {15, 14, 4, 3, 2, 1};
        for (int i = 0; i < 6; i++) {
            Due.is("undo", x.undo(), 5 - i);
            Due.is("start", x.paperOf(0, 0), starts[i]);
        }
        Due.is("undo", x.undo(), NOT_POSSIBLE);
    }

    private static void changesThatMakeNoDifference() {
        Due.sentence("23: records the state before it (also if nothing is different then)");
        ExamHalls x = Schools.withPupils("ab");
        x.save(0);
        Due.is("set", x.set(0, 1), 1);
        Due.is("history", x.count(12), 2);
        Due.is("paper", x.paper(0, 0, 60), 0);
        Due.is("history", x.count(12), 3);
        Due.is("change", x.change(0, A + B, 0, false), 1);
        Due.is("history", x.count(12), 4);
        Due.is("hall", x.hall(0, 2, 2), 4);
        Due.is("history", x.count(12), 5);
        Due.is("restore", x.restore(0), 1);
        Due.is("history", x.count(12), 6);
        for (int left = 5; left >= 1; left--) {
            Due.is("undo", x.undo(), left);
            Due.is("pupils", x.count(3), 1);
        }
        Due.is("undo of the read", x.undo(), 0);
        Due.is("pupils", x.count(3), 0);
    }

    private static void whatIsNoChange() {
        Due.sentence("23: each method that is a change (no other one)");
        ExamHalls x = Schools.withPupils("ab");
        x.pupilOf(0, 0);
        x.paperOf(0, 0);
        x.sitting(0, 0, 0);
        x.hallOf(0, 0);
        x.count(12);
        x.at(0, 0, 0);
        x.ifStart(0, 1, 1);
        x.bestStart(0);
        x.bestHalls(0);
        x.leastRooms();
        x.put('a');
        x.fault();
        x.wipe();
        x.save(0);
        x.save(1);
        Due.is("history", x.count(12), 1);
        Due.is("undo of the read", x.undo(), 0);
        Due.is("undo is no change", x.undo(), NOT_POSSIBLE);
        Due.is("pupils", x.count(3), 0);
    }

    private static void errorsRecordNothing() {
        Due.sentence("23: each method that is a change, and returns no error, records");
        ExamHalls x = Schools.withPupils("a");
        x.set(2, 20);
        int[] errors = {x.set(3, 0), x.set(0, 2), x.paper(6, 0, 60), x.paper(0, 20, 60), x.pupil(0, 0, false), x.read(),
            x.change(1, 1, 0, false), x.change(0, 0, 0, false), x.leave(1), x.hall(4, 1, 1), x.hall(0, 0, 1),
            x.open(4, true), x.open(0, true), x.restore(2), x.restore(0)};
        for (int i = 0; i < errors.length; i++) {
            Due.isTrue("error " + i, errors[i] < 0);
        }
        Due.is("history", x.count(12), 2);
        Due.is("undo", x.undo(), 1);
        Due.is("of the latest one without an error", x.count(2), 10);
    }

    private static void undoBringsAllBack() {
        Due.sentence("23: everything except the pad, the slots and the history is as it was before it");
        for (int kind = 0; kind <= 12; kind++) {
            ExamHalls x = Schools.withPupils("ab+5;cdr;a;a;f+100");
            x.paper(5, 19, 180);
            x.save(1);
            x.set(0, 0);
            x.set(2, 0);
            x.hall(1, 1, 3);
            Schools.type(x, "f");
            String before = Schools.shortView(x);
            switch (kind) {
                case 0 -> x.set(0, 1);
                case 1 -> x.set(1, 0);
                case 2 -> x.set(2, 60);
                case 3 -> x.paper(0, 19, 60);
                case 4 -> x.paper(5, 19, 30);
                case 5 -> x.pupil(F, 9, true);
                case 6 -> x.read();
                case 7 -> x.change(1, A, 1, false);
                case 8 -> x.leave(0);
                case 9 -> x.hall(0, 4, 4);
                case 10 -> x.open(0, false);
                case 11 -> x.restore(1);
                default -> x.leave(4);
            }
            Due.isTrue("change " + kind + " makes a difference", !before.equals(Schools.shortView(x)));
            Due.is("history", x.count(12), 6);
            Due.is("undo", x.undo(), 5);
            Due.isSame("all as before change " + kind, Schools.shortView(x), before);
        }
    }

    private static void undoLeavesPadAndSlots() {
        Due.sentence("23: (undo) everything except the pad, the slots and the history");
        ExamHalls x = Schools.withPupils("a;b");
        x.leave(0);
        Schools.type(x, "c");
        x.save(0);
        Due.is("undo", x.undo(), 1);
        Due.is("two pupils", x.count(3), 2);
        Due.is("the pad stays", x.count(11), 1);
        Due.is("read of it", x.read(), 3);
        Due.is("undo of read", x.undo(), 1);
        Due.is("the pad stays empty", x.count(11), 0);
        Due.is("undo of the first read", x.undo(), 0);
        Due.is("nobody", x.count(3), 0);
        Due.is("what was saved is still there", x.restore(0), 1);
        Due.is("b", x.pupilOf(0, 0), B);
        Due.is("history", x.count(12), 1);
    }

    private static void undoSeatsAnew() {
        Due.sentence("23: everything is as it was before it: who sits where, too");
        ExamHalls x = Schools.withPupils("a;a;br");
        String before = Schools.view(x).replace("count(12,0,0)=1", "");
        x.set(0, 0);
        x.set(1, 0);
        x.open(0, false);
        Due.is("nobody sits", x.at(0, 0, 0), NONE);
        x.undo();
        x.undo();
        Due.is("not spread: the desk 1", x.at(0, 1, 0), 6);
        x.undo();
        Due.isSame("all as before", Schools.view(x).replace("count(12,0,0)=1", ""), before);
        Due.is("the desk 3", x.at(0, 3, 0), 6);
    }

    // ---- promise 24

    private static void saveReturnsHowManyPupils() {
        Due.sentence("24: Returns how many pupils there are");
        ExamHalls x = new ExamHalls();
        Due.is("none", x.save(0), 0);
        for (int pupils = 1; pupils <= 16; pupils++) {
            x.pupil(1, 0, false);
            Due.is("pupils", x.save(pupils % 2), pupils);
        }
        x.pupil(1, 0, false);
        Due.is("16", x.save(0), 16);
    }

    private static void saveOverwrites() {
        Due.sentence("24: overwrites what was saved there");
        for (int slot = 0; slot <= 1; slot++) {
            ExamHalls x = Schools.withPupils("a;b;c");
            x.save(0);
            x.save(1);
            x.leave(2);
            Due.is("save again", x.save(slot), 2);
            x.leave(1);
            Due.is("what was saved last", x.restore(slot), 2);
            Due.is("the other slot", x.restore(1 - slot), 3);
        }
    }

    private static void saveOfEverything() {
        Due.sentence("24: Saves everything except the pad, the history and the slots in a slot");
        for (int slot = 0; slot <= 1; slot++) {
            ExamHalls x = Schools.withPupils(16, 63, 100, true);
            x.set(0, 0);
            x.set(1, 6);
            x.set(2, 60);
            for (int paper = 0; paper < 6; paper++) {
                x.paper(paper, 19 - paper, 180 - paper);
            }
            for (int hall = 0; hall < 4; hall++) {
                x.hall(hall, 4 - hall, 1 + hall);
                x.open(hall, hall != 0);
            }
            x.change(15, 1, 0, false);
            String saved = Schools.shortView(x);
            Due.is("save", x.save(slot), 16);
            x.set(0, 1);
            x.set(1, 0);
            x.set(2, 0);
            for (int paper = 0; paper < 6; paper++) {
                x.paper(paper, paper, 30 + paper);
            }
            for (int hall = 0; hall < 4; hall++) {
                x.hall(hall, 2, 2);
                x.open(hall, hall == 0);
            }
            for (int pupil = 15; pupil >= 0; pupil--) {
                x.leave(pupil);
            }
            Due.is("restore", x.restore(slot), 16);
            Due.isSame("all as it was saved", Schools.shortView(x), saved);
            Due.is("the last hall", x.hallOf(3, 1), 4);
            Due.is("seated, too: the last desk and the first room", x.at(1, 0, 570), 90);
        }
    }

    private static void saveErrors() {
        Due.sentence("24: BAD_VALUE if there is no such slot");
        ExamHalls x = Schools.withPupils("a");
        Due.is("slot -1", x.save(-1), BAD_VALUE);
        Due.is("slot 2", x.save(2), BAD_VALUE);
        Due.is("nothing was saved in 0", x.restore(0), NOT_POSSIBLE);
        Due.is("nothing was saved in 1", x.restore(1), NOT_POSSIBLE);
    }

    // ---- promise 25

    private static void restoreReturnsHowManyPupils() {
        Due.sentence("25: Returns how many pupils there are then");
        for (int pupils = 0; pupils <= 16; pupils += 4) {
            ExamHalls x = Schools.withPupils(pupils, A, 0, false);
            x.save(1);
            if (pupils > 0) {
                x.leave(0);
            } else {
                x.pupil(1, 0, false);
            }
            Due.is("pupils", x.restore(1), pupils);
            Due.is("pupils", x.count(3), pupils);
            Due.is("the last one", x.pupilOf(pupils - 1, 0), pupils == 0 ? NO_SUCH : A);
            Due.is("behind it", x.pupilOf(pupils, 0), NO_SUCH);
        }
    }

    private static void restoreKeepsTheSlot() {
        Due.sentence("25: Restores what was saved last in a slot, which keeps it");
        ExamHalls x = Schools.withPupils("a;b");
        x.save(0);
        for (int i = 0; i < 5; i++) {
            x.change(0, F, 100, true);
            x.paper(0, 5, 50);
            x.leave(1);
            Due.is("restore", x.restore(0), 2);
            Due.is("a", x.pupilOf(0, 0), A);
            Due.is("its extra time", x.pupilOf(0, 1), 0);
            Due.is("b", x.pupilOf(1, 0), B);
            Due.is("start", x.paperOf(0, 0), 0);
        }
    }

    private static void restoreLeavesPadHistoryAndSlots() {
        Due.sentence("24, 25: everything except the pad, the history and the slots");
        ExamHalls x = Schools.withPupils("a;b");
        Schools.type(x, "abc");
        x.save(0);
        x.leave(0);
        x.save(1);
        x.wipe();
        Schools.type(x, "de");
        Due.is("history", x.count(12), 2);
        Due.is("restore", x.restore(0), 2);
        Due.is("the pad stays", x.count(11), 2);
        Due.is("history goes on", x.count(12), 3);
        Due.is("the other slot stays", x.restore(1), 1);
        Due.is("history goes on", x.count(12), 4);
        Due.is("read of what is on the pad", x.read(), 2);
        Due.is("de", x.pupilOf(1, 0), 8 + 16);
    }

    private static void restoreIsAChange() {
        Due.sentence("25: This is a change.");
        ExamHalls x = Schools.withPupils("a;b");
        x.save(0);
        x.leave(0);
        String before = Schools.shortView(x);
        Due.is("restore", x.restore(0), 2);
        Due.is("history", x.count(12), 3);
        Due.is("undo", x.undo(), 2);
        Due.isSame("as before", Schools.shortView(x), before);
        for (int i = 0; i < 7; i++) {
            x.restore(0);
            Due.is("history", x.count(12), Math.min(6, 3 + i));
        }
        for (int left = 5; left >= 0; left--) {
            Due.is("undo", x.undo(), left);
        }
        Due.is("the states before the latest six", x.count(3), 2);
        Due.is("undo", x.undo(), NOT_POSSIBLE);
    }

    private static void restoreErrors() {
        Due.sentence("25: BAD_VALUE if there is no such slot; NOT_POSSIBLE if nothing was saved in it");
        ExamHalls x = Schools.withPupils("a");
        Due.is("slot 0", x.restore(0), NOT_POSSIBLE);
        Due.is("slot 1", x.restore(1), NOT_POSSIBLE);
        Due.is("slot -1", x.restore(-1), BAD_VALUE);
        Due.is("slot 2", x.restore(2), BAD_VALUE);
        x.save(1);
        Due.is("the other slot", x.restore(0), NOT_POSSIBLE);
        Due.is("slot 1", x.restore(1), 1);
        Due.is("slot 2", x.restore(2), BAD_VALUE);
        ExamHalls nobody = new ExamHalls();
        nobody.save(0);
        Due.is("a state without pupils was saved all the same", nobody.restore(0), 0);
        Due.is("history", nobody.count(12), 1);
    }

    private static void slotsShareNothing() {
        Due.sentence("24: slot: 0 or 1 (each by itself, and each object's own)");
        ExamHalls x = Schools.withPupils("a;b;c");
        x.save(0);
        x.leave(0);
        x.save(1);
        x.leave(0);
        Due.is("slot 0", x.restore(0), 3);
        Due.is("a", x.pupilOf(0, 0), A);
        Due.is("slot 1", x.restore(1), 2);
        Due.is("b", x.pupilOf(0, 0), B);
        Due.is("slot 0 again", x.restore(0), 3);
        ExamHalls other = new ExamHalls();
        Due.is("another object's slot 0", other.restore(0), NOT_POSSIBLE);
        Due.is("another object's slot 1", other.restore(1), NOT_POSSIBLE);
        Due.is("another object's history", other.undo(), NOT_POSSIBLE);
    }
}
