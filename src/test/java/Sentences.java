import java.io.IOException;

/**
 * Answers that are due, each under the sentence of the document that asks for it. The sentence is
 * looked up there, word by word, so that a test can not go on for words that have changed.
 */
final class Sentences {
    static final int NONE = -6, UNKNOWN = -1, OUTSIDE = -2, STATE = -3, FULL = -4, NO = -5;
    static final int LOW = Integer.MIN_VALUE, HIGH = Integer.MAX_VALUE;

    private final String document;
    private String sentence = "";
    private int sentences;
    private int answersOfThis;
    private int answers;
    private int wrong;

    Sentences() throws IOException {
        Document read = Document.read();
        document = read == null ? null : Document.oneLine(read.text);
    }

    /** What follows tests this sentence, up to the next one. */
    void says(String quoted) {
        closeSentence();
        sentence = quoted;
        sentences++;
        if (document != null && !document.contains(Document.oneLine(quoted))) {
            wrong("the document does not say this");
        }
    }

    /** What follows tests what stands under a promise of the document. */
    void promises(int number, String quoted) {
        says(quoted);
        if (document == null) {
            return;
        }
        int from = document.indexOf("## Promise " + number + ":");
        int to = document.indexOf("## ", from + 3);
        if (from < 0 || to < 0 || !document.substring(from, to).contains(Document.oneLine(quoted))) {
            wrong("promise " + number + " does not say this");
        }
    }

    void is(String call, long got, long want) {
        answers++;
        answersOfThis++;
        if (got != want) {
            wrong(call + " answered " + got + ", due is " + want);
        }
    }

    void holds(String what, boolean is) {
        answers++;
        answersOfThis++;
        if (!is) {
            wrong("does not hold: " + what);
        }
    }

    private void wrong(String what) {
        wrong++;
        System.out.println("\"" + sentence + "\": " + what);
    }

    private void closeSentence() {
        if (sentences > 0 && answersOfThis == 0) {
            wrong("nothing is asked");
        }
        answersOfThis = 0;
    }

    /** Ends the test: with exit code 1, if an answer was wrong. */
    void end() {
        closeSentence();
        System.out.println(sentences + " sentences, " + answers + " answers, " + wrong + " wrong");
        if (wrong > 0 || sentences == 0) {
            System.exit(1);
        }
    }

    static SevenRounds write(SevenRounds x, String rounds) {
        x.wipe();
        for (char sign : rounds.toCharArray()) {
            x.say(sign);
        }
        return x;
    }

    static SevenRounds written(String rounds) {
        return write(new SevenRounds(), rounds);
    }

    /** A wall as firm as told, part by part, all of one tone. */
    static SevenRounds wall(int tone, int... firm) {
        SevenRounds x = new SevenRounds();
        for (int part = 0; part < firm.length; part++) {
            x.part(part, firm[part], tone);
        }
        return x;
    }

    /** A wall of which all is as firm. */
    static SevenRounds evenWall(int firm, int tone) {
        SevenRounds x = new SevenRounds();
        for (int part = 0; part < 12; part++) {
            x.part(part, firm, tone);
        }
        return x;
    }
}
