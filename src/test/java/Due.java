/** What the tests share: counts answers that are not as due, and feeds texts. */
final class Due {
    private final String test;
    private String sentence = "";
    private int wrong = 0;

    Due(String test) {
        this.test = test;
    }

    /** From here on answers are held against this sentence of the document. */
    void says(String where, String words) {
        sentence = " [" + where + ": " + words + "]";
    }

    void is(String call, long got, long want) {
        if (got != want) {
            wrong++;
            System.out.println(test + ": " + call + " answered " + got + ", due is " + want + sentence);
        }
    }

    void is(String call, boolean got, boolean want) {
        is(call, got ? 1 : 0, want ? 1 : 0);
    }

    /** Ends the test: exit code 1, if an answer was wrong. */
    void end() {
        System.out.println(test + ": " + (wrong == 0 ? "all answers are as due" : wrong + " answers are not as due"));
        if (wrong != 0) {
            System.exit(1);
        }
    }

    static void feed(PartsFerry ferry, String text) {
        byte[] bytes = new byte[(text.length() + 19) / 20 * 20];
        for (int i = 0; i < bytes.length; i++) {
            bytes[i] = (byte) (i < text.length() ? text.charAt(i) : ' ');
        }
        for (int i = 0; i < bytes.length; i += 20) {
            ferry.feed(four(bytes, i), four(bytes, i + 4), four(bytes, i + 8), four(bytes, i + 12), four(bytes, i + 16));
        }
    }

    private static int four(byte[] bytes, int at) {
        return (bytes[at] & 255) << 24 | (bytes[at + 1] & 255) << 16 | (bytes[at + 2] & 255) << 8 | bytes[at + 3] & 255;
    }

    static int tell(PartsFerry ferry, String text) {
        feed(ferry, text);
        return ferry.text(text.length());
    }

    /** Tells a new object a text that has so many lines and no fault. */
    void right(String text, int lines) {
        PartsFerry ferry = new PartsFerry();
        is("text " + text, tell(ferry, text), lines);
        is("fault(0) of " + text, ferry.fault(0), 0);
        is("fault(1) of " + text, ferry.fault(1), -1);
    }

    /** Tells a new object a text that has a fault at the byte behind ^, which is no sign of any text. */
    void faults(int number, String text) {
        int place = text.indexOf('^');
        String told = text.substring(0, place) + text.substring(place + 1);
        PartsFerry ferry = new PartsFerry();
        is("text " + text, tell(ferry, told), -1);
        is("fault(0) of " + text, ferry.fault(0), number);
        is("fault(1) of " + text, ferry.fault(1), place);
    }

    /** A new object that is told a text without a fault. */
    PartsFerry ferry(String text) {
        PartsFerry ferry = new PartsFerry();
        int lines = tell(ferry, text);
        if (lines < 0) {
            is("text of " + text + " (fault " + ferry.fault(0) + " at " + ferry.fault(1) + ")", lines, 0);
        }
        return ferry;
    }

    /** Five bits a letter, as named() takes them. */
    static int letters(String name) {
        int letters = 0;
        for (int i = 0; i < 6; i++) {
            letters = letters << 5 | (i < name.length() ? name.charAt(i) - 'a' + 1 : 0);
        }
        return letters;
    }
}
