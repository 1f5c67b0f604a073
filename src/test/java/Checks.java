/** Counts and prints answers that are not due. */
final class Checks {
    private int wrong = 0;
    private int asked = 0;
    private String sentence = "";

    /** The sentence of the document that the next checks are about; it is printed with a wrong answer. */
    void sentence(String words) {
        sentence = words;
    }

    void due(String call, long got, long want) {
        asked++;
        if (got != want) {
            wrong++;
            if (wrong <= 50) {
                String about = sentence.isEmpty() ? "" : "[" + sentence + "] ";
                System.out.println(about + call + " answered " + got + ", due is " + want);
            }
        }
    }

    void holds(String what, boolean isTrue) {
        due(what, isTrue ? 1 : 0, 1);
    }

    int wrongOnes() {
        return wrong;
    }

    void end() {
        System.out.println(asked + " answers, " + wrong + " not as due");
        if (wrong != 0) {
            System.exit(1);
        }
    }
}
