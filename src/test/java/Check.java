/** What the project's tests share: they count wrong answers, print them, and end with exit code 1 if there was one. */
final class Check {
    private static int wrong = 0;
    private static int asked = 0;

    private Check() {
    }

    static void due(String call, long got, long want) {
        asked++;
        if (got != want) {
            wrong++;
            if (wrong <= 40) System.out.println(call + " answered " + got + ", due is " + want);
        }
    }

    /** Feeds a text to the tape, eight bytes at a time at most. */
    static void feed(WidowsFund x, String text) {
        for (int i = 0; i < text.length(); i += 8) {
            int n = Math.min(8, text.length() - i);
            long w = 0;
            for (int k = 0; k < n; k++) w = w << 8 | text.charAt(i + k) & 255;
            x.feed(w, n);
        }
    }

    /** Feeds a text and tells it as an act. */
    static int act(WidowsFund x, String text, int day) {
        feed(x, text);
        return x.text(day);
    }

    static int wrongs() {
        return wrong;
    }

    static void end(String name) {
        System.out.println(name + ": " + asked + " answers, " + wrong + " wrong");
        if (wrong != 0) System.exit(1);
    }
}
