/**
 * Runs of 512 calls, always the same ones, on an ExamHalls and on a NaiveHalls: every answer has to be the same.
 * All promises are touched, with ordinary and with wrong arguments in every state.
 */
public final class RandomRunsTest {
    private static final int RUNS = 240;
    private static final int CALLS = 512;
    private static final String[] TEXTS = {
        "a", "ab+25;ar;f", "abcdef", "bd+100r;", "e+5;", "a+1r;b;c;d", "f+50", ";", "c", "+7", "r", ";ab", "a;a;a;a;",
        "a+0", "ba", "a+101", "a+1000", "ar1", "A", "g", "a-", "cf;", "ac+33r", "abc;def", "+99r", "0", "a++", "z~!",
    };

    private long seed;
    private ExamHalls real;
    private NaiveHalls naive;
    private String name;

    private RandomRunsTest(int run) {
        seed = 0x9E3779B97F4A7C15L * (run + 1);
        real = new ExamHalls();
        naive = new NaiveHalls();
        name = "run " + run;
    }

    public static void main(String[] args) {
        for (int run = 0; run < RUNS; run++) {
            new RandomRunsTest(run).go(run);
        }
        Due.end();
    }

    private int below(int bound) {
        seed = seed * 6364136223846793005L + 1442695040888963407L;
        return (int) Math.floorMod(seed >>> 33, (long) bound);
    }

    private boolean chance(int ofHundred) {
        return below(100) < ofHundred;
    }

    /** Mostly within the range, sometimes right outside of it, seldom far away. */
    private int value(int low, int high) {
        int kind = below(60);
        if (kind == 0) {
            return low - 1;
        }
        if (kind == 1) {
            return high + 1;
        }
        if (kind == 2) {
            int[] far = {Integer.MIN_VALUE, Integer.MAX_VALUE, -7, 1 << 16, 1 << 31 - 3, 255};
            return far[below(far.length)];
        }
        if (kind < 8) {
            return chance(50) ? low : high;
        }
        return low + below(high - low + 1);
    }

    private int someStart() {
        return chance(70) ? value(0, 6) : value(0, 19);
    }

    private int someMinutes() {
        return chance(50) ? 30 * (1 + below(6)) : value(30, 180);
    }

    private int someExtra() {
        return chance(40) ? 0 : chance(40) ? 25 * (1 + below(4)) : value(0, 100);
    }

    private int somePupil() {
        return value(0, Math.max(0, naive.count(3) - 1));
    }

    private int someMinute() {
        return chance(50) ? 30 * below(32) + below(3) - 1 : value(0, 940);
    }

    private void due(String call, int got, int want) {
        Due.is(name + ": " + call, got, want);
    }

    private void go(int run) {
        if (run % 3 != 0) {
            fill(run);
        }
        for (int call = run % 3 != 0 ? 40 : 0; call < CALLS; call++) {
            name = "run " + run + ", call " + call;
            int kind = below(100);
            if (kind < 30) {
                doChange();
            } else if (kind < 70) {
                doLook();
            } else if (kind < 76) {
                doWhatIf();
            } else if (kind < 92) {
                doText();
            } else {
                doHistory();
            }
        }
    }

    /** At most 40 calls that make many pupils, and most of them crowded. */
    private void fill(int run) {
        for (int i = 0; i < 6; i++) {
            int start = below(run % 2 == 0 ? 5 : 12);
            int minutes = 30 + below(100);
            due("paper", real.paper(i, start, minutes), naive.paper(i, start, minutes));
        }
        for (int i = 0; i < 4; i++) {
            int rows = 1 + below(4);
            int columns = 1 + below(4);
            due("hall", real.hall(i, rows, columns), naive.hall(i, rows, columns));
            boolean isOpen = chance(60);
            due("open", real.open(i, isOpen), naive.open(i, isOpen));
        }
        int many = 5 + below(12);
        for (int i = 0; i < many; i++) {
            int papers = 1 + below(63);
            int extra = someExtra();
            boolean needsReader = chance(30);
            due("pupil", real.pupil(papers, extra, needsReader), naive.pupil(papers, extra, needsReader));
        }
    }

    private void doChange() {
        boolean yes = chance(50);
        boolean reader = chance(30);
        switch (below(8)) {
            case 0 -> {
                int a = value(0, 2);
                int b = a == 0 ? value(0, 1) : a == 1 ? value(0, 6) : value(0, 60);
                due("set(" + a + ", " + b + ")", real.set(a, b), naive.set(a, b));
            }
            case 1 -> {
                int a = value(0, 5);
                int b = someStart();
                int c = someMinutes();
                due("paper(" + a + ", " + b + ", " + c + ")", real.paper(a, b, c), naive.paper(a, b, c));
            }
            case 2, 3 -> {
                int a = value(1, 63);
                int b = someExtra();
                due("pupil(" + a + ", " + b + ", " + reader + ")", real.pupil(a, b, reader), naive.pupil(a, b, reader));
            }
            case 4 -> {
                int a = somePupil();
                int b = value(1, 63);
                int c = someExtra();
                due("change(" + a + ", " + b + ", " + c + ", " + reader + ")",
                        real.change(a, b, c, reader), naive.change(a, b, c, reader));
            }
            case 5 -> {
                int a = somePupil();
                due("leave(" + a + ")", real.leave(a), naive.leave(a));
            }
            case 6 -> {
                int a = value(0, 3);
                int b = value(1, 4);
                int c = value(1, 4);
                due("hall(" + a + ", " + b + ", " + c + ")", real.hall(a, b, c), naive.hall(a, b, c));
            }
            default -> {
                int a = value(0, 3);
                due("open(" + a + ", " + yes + ")", real.open(a, yes), naive.open(a, yes));
            }
        }
    }

    private void doLook() {
        switch (below(7)) {
            case 0 -> {
                int a = somePupil();
                int b = value(0, 5);
                due("pupilOf(" + a + ", " + b + ")", real.pupilOf(a, b), naive.pupilOf(a, b));
            }
            case 1 -> {
                int a = value(0, 5);
                int b = value(0, 5);
                due("paperOf(" + a + ", " + b + ")", real.paperOf(a, b), naive.paperOf(a, b));
            }
            case 2, 3 -> {
                int a = somePupil();
                int b = value(0, 5);
                int c = value(0, 5);
                due("sitting(" + a + ", " + b + ", " + c + ")", real.sitting(a, b, c), naive.sitting(a, b, c));
            }
            case 4 -> {
                int a = value(0, 3);
                int b = value(0, 4);
                due("hallOf(" + a + ", " + b + ")", real.hallOf(a, b), naive.hallOf(a, b));
            }
            case 5 -> {
                int a = value(0, 12);
                due("count(" + a + ")", real.count(a), naive.count(a));
            }
            default -> {
                int a = value(0, 3);
                int b = chance(70) ? value(0, 3) : value(0, 15);
                int c = someMinute();
                due("at(" + a + ", " + b + ", " + c + ")", real.at(a, b, c), naive.at(a, b, c));
            }
        }
    }

    private void doWhatIf() {
        switch (below(6)) {
            case 0, 1 -> {
                int a = value(0, 5);
                int b = someStart();
                int c = value(0, 2);
                due("ifStart(" + a + ", " + b + ", " + c + ")", real.ifStart(a, b, c), naive.ifStart(a, b, c));
            }
            case 2 -> {
                int a = value(0, 5);
                due("bestStart(" + a + ")", real.bestStart(a), naive.bestStart(a));
            }
            case 3, 4 -> {
                int a = value(0, 1);
                due("bestHalls(" + a + ")", real.bestHalls(a), naive.bestHalls(a));
            }
            default -> due("leastRooms()", real.leastRooms(), naive.leastRooms());
        }
    }

    private long someCharacters() {
        long characters = 0;
        if (chance(85)) {
            String text = TEXTS[below(TEXTS.length)];
            for (int i = 0; i < text.length() && i < 8; i++) {
                characters = characters << 8 | text.charAt(i);
            }
            return chance(95) ? characters : characters << 8;
        }
        String signs = "abcdef;+r0123456789";
        int many = below(9);
        for (int i = 0; i < many; i++) {
            int code = chance(95) ? signs.charAt(below(signs.length())) : below(256);
            characters = characters << 8 | code;
        }
        return characters;
    }

    private void doText() {
        int kind = below(12);
        if (kind < 5) {
            long a = someCharacters();
            due("put(" + a + ")", real.put(a), naive.put(a));
        } else if (kind < 8) {
            due("fault()", real.fault(), naive.fault());
        } else if (kind < 10) {
            due("read()", real.read(), naive.read());
        } else if (kind < 11) {
            due("wipe()", real.wipe(), naive.wipe());
        } else {
            due("count(11)", real.count(11), naive.count(11));
        }
    }

    private void doHistory() {
        int kind = below(5);
        int slot = value(0, 1);
        if (kind < 2) {
            due("undo()", real.undo(), naive.undo());
        } else if (kind < 3) {
            due("save(" + slot + ")", real.save(slot), naive.save(slot));
        } else if (kind < 4) {
            due("restore(" + slot + ")", real.restore(slot), naive.restore(slot));
        } else {
            due("count(12)", real.count(12), naive.count(12));
        }
    }
}
