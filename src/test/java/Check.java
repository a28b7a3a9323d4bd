import java.io.IOException;
import java.nio.file.Files;
import java.nio.file.Path;

/** What the tests share: telling a beach by its text, and counting answers that are not as due. */
final class Check {
    private final String name;
    private String words = "";
    private int sentences = 0;
    private int askedBefore = 0;
    private int asked = 0;
    private int wrong = 0;

    Check(String name) {
        this.name = name;
    }

    /** The answers behind this are due by these words of the document; there must be some. */
    void by(String where, String sentence) {
        due("answers to be tested", sentences == 0 || asked > askedBefore, true);
        sentences++;
        askedBefore = asked;
        words = " [" + where + ": " + sentence + "]";
        boolean stands = oneLine(section(where)).contains(oneLine(sentence));
        if (!stands) {
            wrong++;
            System.out.println(name + words + ": the document does not say so there");
        }
    }

    /** A section of the document: "Terms", or a promise by its number. */
    static String section(String where) {
        String document = document();
        String head = where.matches("\\d+") ? "\n## Promise " + where + ":" : "\n## " + where + "\n";
        int from = document.indexOf(head);
        int to = document.indexOf("\n## ", from + 1);
        return from < 0 ? "" : document.substring(from, to < 0 ? document.length() : to);
    }

    static String document() {
        try {
            return Files.readString(Path.of("../shared/DOC.md"));
        } catch (IOException e) {
            throw new IllegalStateException("the document is not at ../shared/DOC.md", e);
        }
    }

    private static String oneLine(String text) {
        return text.replaceAll("\\s+", " ");
    }

    void due(String call, long got, long want) {
        asked++;
        if (got != want) {
            wrong++;
            System.out.println(name + words + ": " + call + " answered " + got + ", due is " + want);
        }
    }

    void due(String call, boolean got, boolean want) {
        due(call, got ? 1 : 0, want ? 1 : 0);
    }

    /** All that can be asked is as it was before. */
    void same(String call, SandNights x, String before) {
        String now = whole(x);
        int place = 0;
        while (place < now.length() && place < before.length() && now.charAt(place) == before.charAt(place)) {
            place++;
        }
        String shown = now.substring(Math.max(0, place - 30), Math.min(now.length(), place + 10));
        due(call + " changes .. " + shown, now.equals(before), true);
    }

    int wrong() {
        return wrong;
    }

    void finish() {
        due("answers to the last sentence", sentences == 0 || asked > askedBefore, true);
        System.out.println(name + ": " + sentences + " sentences, " + asked + " answers, " + wrong + " not as due");
        if (wrong != 0) {
            System.exit(1);
        }
    }

    static void feed(SandNights x, String text) {
        int before = x.about(11);
        for (int i = 0; i < text.length(); i += 20) {
            x.feed(word(text, i), word(text, i + 4), word(text, i + 8), word(text, i + 12), word(text, i + 16));
        }
        x.end(before + text.length());
    }

    private static int word(String text, int from) {
        int word = 0;
        for (int i = from; i < from + 4; i++) {
            word = word << 8 | (i < text.length() ? text.charAt(i) & 255 : 32);
        }
        return word;
    }

    static int tell(SandNights x, String text) {
        feed(x, text);
        return x.beach();
    }

    static SandNights told(String text) {
        SandNights x = new SandNights();
        if (tell(x, text) == SandNights.NONE) {
            throw new IllegalStateException("fault " + x.fault(0) + " at " + x.fault(1) + " in " + text);
        }
        return x;
    }

    /** All that can be asked without changing anything. */
    static String whole(SandNights x) {
        StringBuilder all = new StringBuilder();
        for (int what = 0; what < 14; what++) {
            add(all, "about", what, x.about(what));
        }
        add(all, "fault", x.fault(0), x.fault(1));
        for (int cell = 0; cell < 25; cell++) {
            add(all, "lies", cell, x.lies(cell));
            for (int what = 0; what < 6; what++) {
                add(all, "sand " + cell, what, x.sand(cell, what));
            }
        }
        for (int walker = 0; walker < 5; walker++) {
            addWalker(all, x, walker);
        }
        for (int k = -1; k <= 1; k++) {
            int time = x.about(10) * k;
            add(all, "paths", time, x.paths(time));
            for (int minute = 0; minute < 8; minute++) {
                add(all, "sure " + minute, time, x.sure(minute, time));
            }
        }
        return add(all, "odds", x.lasts(1, 0), x.lasts(1, 1)).toString();
    }

    private static void addWalker(StringBuilder all, SandNights x, int walker) {
        for (int what = 0; what < 6; what++) {
            add(all, "walker " + walker, what, x.walker(walker, what));
        }
        for (int other = 0; other < 5; other++) {
            add(all, "over " + walker, other, x.over(walker, other));
            add(all, "met " + walker, other, x.met(walker, other));
        }
        for (int minute = 0; minute < 60; minute++) {
            add(all, "ghost " + walker, minute, x.ghost(walker, minute));
        }
    }

    private static StringBuilder add(StringBuilder all, String name, int given, int answer) {
        return all.append(name).append(' ').append(given).append(": ").append(answer).append('\n');
    }
}
