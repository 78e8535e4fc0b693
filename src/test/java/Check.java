/** Counts the answers that are not as due, and tells each of them. */
final class Check {
    interface Call {
        long answer();
    }

    private int wrong = 0;
    private int asked = 0;
    private String topic = "";

    void topic(String name) {
        topic = name;
    }

    void due(long want, String call, Call run) {
        tell(call, Long.toString(want), answerOf(run));
    }

    void thrown(Class<? extends RuntimeException> want, String call, Call run) {
        tell(call, "throws." + want.getSimpleName(), answerOf(run));
    }

    void tell(String call, String want, String got) {
        asked++;
        if (!want.equals(got)) {
            wrong++;
            System.out.println(topic + ": " + call + " answered " + got + ", due is " + want);
        }
    }

    boolean isClean() {
        return wrong == 0;
    }

    void end() {
        System.out.println(asked + " answers, " + wrong + " not as due");
        if (wrong != 0) {
            System.exit(1);
        }
    }

    static String answerOf(Call run) {
        try {
            return Long.toString(run.answer());
        } catch (RuntimeException e) {
            return "throws." + e.getClass().getSimpleName();
        }
    }
}
