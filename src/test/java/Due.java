/** Counts the answers that are not the ones that are due, and ends a test. */
final class Due {
    private static final int MOST_SHOWN = 40;
    private static final int MOST_SECONDS = 300;
    private static int looked = 0;
    private static int wrong = 0;
    private static int sentences = 0;
    private static volatile String sentence = "";

    // A call that does not end must fail the test, too.
    static {
        Thread watch = new Thread(Due::endLate);
        watch.setDaemon(true);
        watch.start();
    }

    private Due() {
    }

    private static void endLate() {
        try {
            Thread.sleep(1000L * MOST_SECONDS);
        } catch (InterruptedException e) {
            return;
        }
        System.out.println(sentence + "no end after " + MOST_SECONDS + " seconds");
        Runtime.getRuntime().halt(1);
    }

    /** The sentence of the document that the next answers hold to: it stands ahead of what is wrong in them. */
    static void sentence(String words) {
        sentences++;
        sentence = "[" + words + "] ";
    }

    static void is(String call, long got, long want) {
        looked++;
        if (got != want) {
            tell(call + " answered " + got + ", due is " + want);
        }
    }

    static void isTrue(String what, boolean holds) {
        is(what, holds ? 1 : 0, 1);
    }

    /** Two looks at an object, each of the form "call=answer call=answer ..". */
    static void isSame(String what, String got, String want) {
        looked++;
        if (!got.equals(want)) {
            tell(what + ": " + firstDifference(got.split(" "), want.split(" ")));
        }
    }

    private static String firstDifference(String[] got, String[] want) {
        for (int i = 0; i < got.length && i < want.length; i++) {
            if (!got[i].equals(want[i])) {
                return got[i] + ", due is " + want[i];
            }
        }
        return got.length + " answers, due are " + want.length;
    }

    private static void tell(String words) {
        wrong++;
        if (wrong <= MOST_SHOWN) {
            System.out.println(sentence + words);
        }
    }

    static void end() {
        String ofSentences = sentences == 0 ? "" : sentences + " sentences, ";
        System.out.println(ofSentences + looked + " answers, " + wrong + " not as due");
        if (wrong != 0 || looked == 0) {
            System.exit(1);
        }
    }
}
