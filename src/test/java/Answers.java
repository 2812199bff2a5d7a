/** Compares answers with those that are due, and ends the program with 1 if one was wrong. */
final class Answers {
    private final String test;
    private String sentence = "";
    private int compared = 0;
    private int wrong = 0;

    Answers(String test) {
        this.test = test;
    }

    /** The words of the document that the answers from now on belong to. */
    void sentence(String words) {
        sentence = " [" + words + "]";
    }

    void due(String what, Object got, Object want) {
        compared++;
        if (!want.equals(got)) {
            wrong++;
            System.out.println(test + sentence + ": " + what + " answered <" + got + ">, due is <" + want + ">");
        }
    }

    void finish() {
        System.out.println(test + ": " + compared + " answers, " + wrong + " not as due");
        if (wrong != 0 || compared == 0) {
            System.exit(1);
        }
    }
}
