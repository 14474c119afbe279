/** Counts answers, prints the wrong ones and ends a test with exit code 1 if there was one. */
final class Check {
    /** A call whose exception is looked at. */
    interface Call {
        void run();
    }

    private int asked = 0;
    private int wrong = 0;
    private int sentences = 0;
    private String sentence = "";

    /** The document's words that the next answers are about: they are told with a wrong one. */
    void sentence(String words) {
        sentences++;
        sentence = "\"" + words + "\": ";
    }

    void same(String what, long got, long due) {
        asked++;
        if (got != due) {
            wrong++;
            System.out.println(sentence + what + " answered " + got + ", due is " + due);
        }
    }

    void same(String what, String got, String due) {
        asked++;
        if (!got.equals(due)) {
            wrong++;
            System.out.println(sentence + what + " answered <" + shortened(got) + ">, due is <"
                    + shortened(due) + ">");
        }
    }

    private static String shortened(String text) {
        return text.length() <= 400 ? text : text.substring(0, 400) + " ..";
    }

    void yes(String what, boolean got) {
        same(what, got ? 1 : 0, 1);
    }

    void no(String what, boolean got) {
        same(what, got ? 1 : 0, 0);
    }

    /** The very class counts: no other exception will do, not even a class below it. */
    void fails(String what, Class<? extends RuntimeException> due, Call call) {
        String got = "nothing";
        try {
            call.run();
        } catch (RuntimeException e) {
            got = e.getClass().getName();
        }
        same(what + " throws", got, due.getName());
    }

    void finish(String test) {
        String about = sentences == 0 ? "" : " to " + sentences + " sentences";
        System.out.println(test + ": " + asked + " answers" + about + ", " + wrong + " wrong");
        if (wrong != 0) {
            System.exit(1);
        }
    }
}
