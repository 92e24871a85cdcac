/** Compares answers with those that are due, and counts the wrong ones. */
final class Check {
    /** A call with an answer; what it throws is an answer, too. */
    interface Call {
        Object answer();
    }

    private static final String[] NAMES = {
        "IllegalStateException", "IllegalArgumentException", "IndexOutOfBoundsException"
    };

    static final String STATE = thrown(0);
    static final String ARGUMENT = thrown(1);
    static final String INDEX = thrown(2);

    private final String test;
    private String sentence = "";
    private int sentences;
    private int checks;
    private int wrong;

    Check(String test) {
        this.test = test;
    }

    private static String thrown(int number) {
        return "throws." + NAMES[number];
    }

    /** The answer of a call as a text: a value, or the name of exactly what it throws. */
    static String answer(Call call) {
        try {
            return String.valueOf(call.answer());
        } catch (RuntimeException thrown) {
            return "throws." + thrown.getClass().getSimpleName();
        }
    }

    /** Names the sentence of the document that the checks behind it hold the class to. */
    void sentence(String text) {
        sentence = " [" + text + "]";
        sentences++;
    }

    void due(String name, Object want, Call call) {
        same(name, String.valueOf(want), answer(call));
    }

    void same(String name, String want, String got) {
        checks++;
        if (!want.equals(got)) {
            wrong++;
            System.out.println(test + ":" + sentence + " " + name + " answered " + got + ", due is " + want);
        }
    }

    boolean isWrong() {
        return wrong > 0;
    }

    void end() {
        String told = sentences == 0 ? "" : sentences + " sentences, ";
        System.out.println(test + ": " + told + checks + " checks, " + wrong + " wrong");
        if (wrong > 0 || checks == 0) {
            System.exit(1);
        }
    }
}
