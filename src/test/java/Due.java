/** Counts and prints the answers that are not as due. */
final class Due {
    private static int wrong = 0;
    private static int asked = 0;
    private static String place = "";

    private Due() {
    }

    /** What is told before every wrong answer from now on. */
    static void in(String newPlace) {
        place = newPlace;
    }

    static void due(String what, long got, long want) {
        asked++;
        if (got != want) {
            wrong++;
            if (wrong <= 40) {
                System.out.println(place + what + " answered " + got + ", due is " + want);
            }
        }
    }

    static int asked() {
        return asked;
    }

    static void end() {
        System.out.println(wrong == 0 ? "all answers are as due" : wrong + " answers are not as due");
        if (wrong != 0) {
            System.exit(1);
        }
    }
}
