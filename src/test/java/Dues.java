/** Counts answers that are not as due, and puts texts on tapes. */
final class Dues {
    private int wrong = 0;
    private int asked = 0;

    void due(String call, long got, long want) {
        asked++;
        if (got != want) {
            wrong++;
            System.out.println(call + " answered " + got + ", due is " + want);
        }
    }

    void due(String call, boolean got, boolean want) {
        due(call, got ? 1 : 0, want ? 1 : 0);
    }

    int wrong() {
        return wrong;
    }

    void end() {
        System.out.println(wrong == 0 ? "all " + asked + " answers are as due" : wrong + " answers are not as due");
        if (wrong != 0) {
            System.exit(1);
        }
    }

    static int[] fourBytesEach(String text) {
        int[] words = new int[(text.length() + 19) / 20 * 5];
        for (int i = 0; i < words.length * 4; i++) {
            int c = i < text.length() ? text.charAt(i) & 255 : ' ';
            words[i / 4] |= c << 24 - i % 4 * 8;
        }
        return words;
    }

    static void put(VoiceTonight x, String text) {
        int[] w = fourBytesEach(text);
        for (int i = 0; i < w.length; i += 5) {
            x.feed(w[i], w[i + 1], w[i + 2], w[i + 3], w[i + 4]);
        }
        x.back(w.length * 4 - text.length());
    }

    static VoiceTonight voice(String text) {
        VoiceTonight x = new VoiceTonight();
        put(x, text);
        int fault = x.read();
        if (fault != 0) {
            throw new IllegalStateException("fault " + fault + " at " + x.place() + " of " + text);
        }
        return x;
    }

    /** A text with a fault: its number and its place. */
    void fault(String text, int number, int place) {
        VoiceTonight x = new VoiceTonight();
        put(x, text);
        due("read() of \"" + text + "\"", x.read(), number);
        due("place() of \"" + text + "\"", x.place(), place);
    }
}
