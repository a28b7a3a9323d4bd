/** What the tests share: telling a beach by its text, and counting answers that are not as due. */
final class Check {
    private final String name;
    private int wrong = 0;
    private int asked = 0;

    Check(String name) {
        this.name = name;
    }

    void due(String call, long got, long want) {
        asked++;
        if (got != want) {
            wrong++;
            System.out.println(name + ": " + call + " answered " + got + ", due is " + want);
        }
    }

    void due(String call, boolean got, boolean want) {
        due(call, got ? 1 : 0, want ? 1 : 0);
    }

    int wrong() {
        return wrong;
    }

    void finish() {
        System.out.println(name + ": " + asked + " answers, " + wrong + " not as due");
        if (wrong != 0) {
            System.exit(1);
        }
    }

    static void feed(SandNights x, String text) {
        int before = x.about(11);
        for (int i = 0; i < text.length(); i += 20) {
            x.feed(word(text, i), word(text, i + 4), word(text, i + 8), word(text, i + 12), word(text, i + 16));
        }
        x.end(before + text.length());
    }

    private static int word(String text, int from) {
        int word = 0;
        for (int i = from; i < from + 4; i++) {
            word = word << 8 | (i < text.length() ? text.charAt(i) & 255 : 32);
        }
        return word;
    }

    static int tell(SandNights x, String text) {
        feed(x, text);
        return x.beach();
    }

    static SandNights told(String text) {
        SandNights x = new SandNights();
        if (tell(x, text) == SandNights.NONE) {
            throw new IllegalStateException("fault " + x.fault(0) + " at " + x.fault(1) + " in " + text);
        }
        return x;
    }
}
