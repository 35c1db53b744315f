/** Counts answers that are not as due, and prints them. */
final class Due {
    private int asked;
    private int wrong;

    void is(String call, long got, long want) {
        asked++;
        if (got != want) {
            wrong++;
            System.out.println(call + " answered " + got + ", due is " + want);
        }
    }

    void holds(String what, boolean is) {
        asked++;
        if (!is) {
            wrong++;
            System.out.println("does not hold: " + what);
        }
    }

    boolean isWrong() {
        return wrong > 0;
    }

    /** Ends the test: with exit code 1, if an answer was wrong. */
    void end() {
        System.out.println(asked + " answers, " + wrong + " of them wrong");
        if (wrong > 0 || asked == 0) {
            System.exit(1);
        }
    }

    static SevenRounds write(SevenRounds x, String rounds) {
        x.wipe();
        for (char sign : rounds.toCharArray()) {
            x.say(sign);
        }
        return x;
    }
}
