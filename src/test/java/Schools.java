/** Makes schools for tests, and looks at all that they tell. */
final class Schools {
    static final int A = 1, B = 2, C = 4, D = 8, E = 16, F = 32;

    private Schools() {
    }

    /** At most 8 characters as put() takes them. */
    static long word(String text) {
        long characters = 0;
        for (int i = 0; i < text.length(); i++) {
            characters = characters << 8 | text.charAt(i);
        }
        return characters;
    }

    /** Puts a text on the pad, at most 8 characters a call. */
    static void type(ExamHalls x, String text) {
        for (int i = 0; i < text.length(); i += 8) {
            int from = x.count(11);
            String part = text.substring(i, Math.min(text.length(), i + 8));
            Due.is("put of " + part, x.put(word(part)), from + part.length());
        }
    }

    static ExamHalls withPupils(String text) {
        ExamHalls x = new ExamHalls();
        type(x, text);
        Due.is("read of " + text, x.read(), text.split(";").length);
        return x;
    }

    /** So many pupils, all the same. */
    static ExamHalls withPupils(int many, int papers, int extra, boolean needsReader) {
        ExamHalls x = new ExamHalls();
        for (int i = 0; i < many; i++) {
            Due.is("pupil", x.pupil(papers, extra, needsReader), i);
        }
        return x;
    }

    /** All that can be looked at, but no what-if: 283 calls at most if each pupil sits one paper. */
    static String view(ExamHalls x) {
        StringBuilder all = new StringBuilder();
        for (int what = 0; what <= 12; what++) {
            add(all, "count", what, 0, 0, x.count(what));
        }
        add(all, "fault", 0, 0, 0, x.fault());
        for (int paper = 0; paper < 6; paper++) {
            for (int what = 0; what <= 5; what++) {
                add(all, "paperOf", paper, what, 0, x.paperOf(paper, what));
            }
        }
        for (int hall = 0; hall < 4; hall++) {
            for (int what = 0; what <= 4; what++) {
                add(all, "hallOf", hall, what, 0, x.hallOf(hall, what));
            }
            add(all, "at", hall, 0, 0, x.at(hall, 0, 0));
        }
        int pupils = x.count(3);
        for (int pupil = 0; pupil < pupils; pupil++) {
            int papers = x.pupilOf(pupil, 0);
            for (int what = 1; what <= 5; what++) {
                add(all, "pupilOf", pupil, what, 0, x.pupilOf(pupil, what));
            }
            for (int paper = 0; paper < 6; paper++) {
                for (int what = 0; what <= 5 && (papers >> paper & 1) == 1; what++) {
                    add(all, "sitting", pupil, paper, what, x.sitting(pupil, paper, what));
                }
            }
        }
        return all.toString();
    }

    /** What undo, save and restore bring back, and how many have no place: 77 calls with 16 pupils. */
    static String shortView(ExamHalls x) {
        StringBuilder all = new StringBuilder();
        int pupils = x.count(3);
        add(all, "count", 3, 0, 0, pupils);
        add(all, "count", 5, 0, 0, x.count(5));
        for (int what = 0; what <= 2; what++) {
            add(all, "count", what, 0, 0, x.count(what));
            for (int pupil = 0; pupil < pupils; pupil++) {
                add(all, "pupilOf", pupil, what, 0, x.pupilOf(pupil, what));
            }
            for (int hall = 0; hall < 4; hall++) {
                add(all, "hallOf", hall, what, 0, x.hallOf(hall, what));
            }
        }
        for (int paper = 0; paper < 6; paper++) {
            add(all, "paperOf", paper, 0, 0, x.paperOf(paper, 0));
            add(all, "paperOf", paper, 1, 0, x.paperOf(paper, 1));
        }
        return all.toString();
    }

    /** All states of the history, from the latest to the oldest one. */
    static String viewOfUndo(ExamHalls x) {
        StringBuilder all = new StringBuilder();
        for (int i = 0; i <= 6; i++) {
            int left = x.undo();
            add(all, "undo", 0, 0, 0, left);
            if (left < 0) {
                break;
            }
            all.append(shortView(x));
        }
        return all.toString();
    }

    /** What the pad and both slots hold. */
    static String viewOfPadAndSlots(ExamHalls x) {
        StringBuilder all = new StringBuilder();
        add(all, "read", 0, 0, 0, x.read());
        all.append(shortView(x));
        add(all, "wipe", 0, 0, 0, x.wipe());
        for (int slot = 0; slot < 2; slot++) {
            add(all, "restore", slot, 0, 0, x.restore(slot));
            all.append(shortView(x));
        }
        return all.toString();
    }

    private static void add(StringBuilder all, String call, int a, int b, int c, int answer) {
        all.append(call).append('(').append(a).append(',').append(b).append(',').append(c).append(")=");
        all.append(answer).append(' ');
    }
}
