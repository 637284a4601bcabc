import java.util.Arrays;
import java.util.Set;
import java.util.TreeSet;

/** Counts answers that are not as due, and puts texts on tapes. */
final class Dues {
    private int wrong = 0;
    private int asked = 0;
    private String sentence = "";
    private int askedOfSentence = 1;
    private final Set<Integer> promises = new TreeSet<>();

    void due(String call, long got, long want) {
        asked++;
        askedOfSentence++;
        if (got != want) {
            wrong++;
            System.out.println(sentence + call + " answered " + got + ", due is " + want);
        }
    }

    /** The promise and the words of the document whose boundary cases come next. */
    void sentence(int promise, String words) {
        endSentence();
        promises.add(promise);
        sentence = "promise " + promise + " (" + words + "): ";
        askedOfSentence = 0;
    }

    private void endSentence() {
        if (askedOfSentence == 0) {
            due("cases asked for", 0, 1);
        }
    }

    /** The end of a test that has boundary cases for each of these promises, and no others. */
    void endOf(int... due) {
        endSentence();
        sentence = "";
        for (int promise : due) {
            due("a boundary case of promise " + promise, promises.contains(promise), true);
        }
        due("promises with boundary cases", promises.size(), due.length);
        end();
    }

    void due(String call, boolean got, boolean want) {
        due(call, got ? 1 : 0, want ? 1 : 0);
    }

    int wrong() {
        return wrong;
    }

    void end() {
        System.out.println(wrong == 0 ? "all " + asked + " answers are as due" : wrong + " answers are not as due");
        if (wrong != 0) {
            System.exit(1);
        }
    }

    static int[] fourBytesEach(String text) {
        int[] words = new int[(text.length() + 19) / 20 * 5];
        for (int i = 0; i < words.length * 4; i++) {
            int c = i < text.length() ? text.charAt(i) & 255 : ' ';
            words[i / 4] |= c << 24 - i % 4 * 8;
        }
        return words;
    }

    static void put(VoiceTonight x, String text) {
        int[] w = fourBytesEach(text);
        for (int i = 0; i < w.length; i += 5) {
            x.feed(w[i], w[i + 1], w[i + 2], w[i + 3], w[i + 4]);
        }
        x.back(w.length * 4 - text.length());
    }

    static VoiceTonight voice(String text) {
        VoiceTonight x = new VoiceTonight();
        put(x, text);
        int fault = x.read();
        if (fault != 0) {
            throw new IllegalStateException("fault " + fault + " at " + x.place() + " of " + text);
        }
        return x;
    }

    /** All that can be asked for without trying anything out. */
    static int[] all(VoiceTonight x) {
        int[] all = new int[100];
        int n = 0;
        for (int what = 0; what < 18; what++) {
            all[n++] = x.count(what);
        }
        for (int r = 0; r < x.count(0); r++) {
            for (int what = 0; what < 6; what++) {
                all[n++] = x.role(r, what);
            }
        }
        for (int l = 0; l < x.count(1); l++) {
            for (int what = 0; what < 6; what++) {
                all[n++] = x.listener(l, what);
            }
        }
        return all;
    }

    /** Nothing has happened since all() told this. */
    void unchanged(String call, VoiceTonight x, int[] before) {
        due("nothing happens by " + call, Arrays.equals(all(x), before), true);
    }

    /** A text with a fault: its number and its place. */
    void fault(String text, int number, int place) {
        VoiceTonight x = new VoiceTonight();
        put(x, text);
        due("read() of \"" + text + "\"", x.read(), number);
        due("place() of \"" + text + "\"", x.place(), place);
    }
}
