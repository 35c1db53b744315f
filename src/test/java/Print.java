/**
 * All that can be asked of an object, as a row of numbers: two objects with the same row are in the
 * same state. It ends by restoring the images, so the object is used up.
 */
final class Print {
    private final long[] row = new long[256];
    private int length;

    private Print() {
    }

    static long[] of(SevenRounds x) {
        Print print = new Print();
        print.askOfThePad(x);
        print.askOfTheRest(x);
        for (int n = 0; n < 2; n++) {
            print.note(x.restore(n));
            print.askOfTheRest(x);
        }
        print.askOfThePad(x);
        return java.util.Arrays.copyOf(print.row, print.length);
    }

    private void note(long answer) {
        row[length] = answer;
        length++;
    }

    private void askOfThePad(SevenRounds x) {
        note(x.told(0));
        note(x.fault());
        note(x.judge(0));
        note(x.judge(1));
        note(x.then(0));
        note(x.then(1));
        note(x.then(2));
        note(x.fell(0));
        note(x.fell(1));
    }

    private void askOfTheRest(SevenRounds x) {
        for (int what = 1; what <= 5; what++) {
            note(x.told(what));
        }
        for (int part = 0; part < 12; part++) {
            note(x.told(10 + part));
            note(x.told(30 + part));
        }
        for (int man = 0; man < 8; man++) {
            note(x.told(50 + man));
        }
        note(x.down());
        note(x.tones());
    }
}
