import java.util.ArrayList;
import java.util.Arrays;
import java.util.HashMap;
import java.util.List;
import java.util.Map;

/**
 * The document once more, by other means: trees, maps, copies and plain trying out, so that what it
 * and the class answer alike is not a slip that both have made.
 */
final class Model {
    static final class Fault extends Exception {
        private static final long serialVersionUID = 1L;
        final int number;
        final int place;

        Fault(int number, int place) {
            this.number = number;
            this.place = place;
        }
    }

    static final class ByZero extends Exception {
        private static final long serialVersionUID = 1L;
    }

    interface E {
        int value(Map<String, Integer> vars) throws ByZero;
    }

    static final class Law {
        final List<E[]> ifs = new ArrayList<>();
        E last;

        int told(Map<String, Integer> vars) {
            try {
                for (E[] one : ifs) {
                    if (one[0].value(vars) < one[1].value(vars)) {
                        return one[2].value(vars);
                    }
                }
                return last.value(vars);
            } catch (ByZero e) {
                return 0;
            }
        }
    }

    static final class Token {
        final String text;
        final char kind;
        final int place;

        Token(String text, char kind, int place) {
            this.text = text;
            this.kind = kind;
            this.place = place;
        }
    }

    static final class World {
        final List<String> roles = new ArrayList<>();
        final List<int[]> roleInts = new ArrayList<>();
        final List<String> listeners = new ArrayList<>();
        final List<int[]> listenerInts = new ArrayList<>();
        final List<int[]> really = new ArrayList<>();
        final Map<String, Law> laws = new HashMap<>();
        final Map<String, Integer> numbers = new HashMap<>();

        World() {
            numbers.put("crackle", 0);
            numbers.put("quiet", 3);
            numbers.put("seed", 0);
            for (String law : new String[] {"says", "trusts", "moves", "rings"}) {
                Law usual = new Law();
                int value = law.equals("says") || law.equals("trusts") ? 1 : 0;
                usual.last = vars -> value;
                laws.put(law, usual);
            }
        }

        boolean really(int listener, int role) {
            for (int[] two : really) {
                if (two[0] == listener && two[1] == role) {
                    return true;
                }
            }
            return false;
        }
    }

    static final List<String> WORDS = Arrays.asList("role", "listener", "really", "says", "trusts", "moves",
            "rings", "crackle", "quiet", "seed", "if", "then", "else", "fame", "times", "fact", "evening",
            "belief", "known", "parts", "which", "same");
    static final List<String> VARS = WORDS.subList(13, 22);

    /** Parses by going down the grammar; syntax and room first, then what the tokens mean. */
    static final class Parser {
        final String text;
        final List<Token> tokens = new ArrayList<>();
        int at = 0;
        int depth = 0;
        final World world = new World();
        final Map<String, Integer> counts = new HashMap<>();
        Fault meaning = null;

        Parser(String text) {
            this.text = text;
        }

        static World parse(String text) throws Fault {
            Parser p = new Parser(text);
            p.split();
            while (p.at < p.tokens.size()) {
                p.tell();
            }
            if (p.meaning != null) {
                throw p.meaning;
            }
            return p.world;
        }

        void split() {
            int i = 0;
            while (i < text.length()) {
                char c = text.charAt(i);
                int j = i + 1;
                char kind;
                if ("\t\n\r ".indexOf(c) >= 0) {
                    i++;
                    continue;
                } else if (c >= 'a' && c <= 'z') {
                    while (j < text.length() && text.charAt(j) >= 'a' && text.charAt(j) <= 'z') {
                        j++;
                    }
                    kind = WORDS.contains(text.substring(i, j)) ? 'w' : j - i > 8 ? '?' : 'n';
                } else if (c >= '0' && c <= '9') {
                    while (j < text.length() && text.charAt(j) >= '0' && text.charAt(j) <= '9') {
                        j++;
                    }
                    kind = j - i > 4 ? '?' : 'i';
                } else {
                    kind = ";=+-*/<()".indexOf(c) >= 0 ? 's' : '?';
                }
                tokens.add(new Token(text.substring(i, j), kind, i));
                i = j;
            }
        }

        Token peek() {
            return at < tokens.size() ? tokens.get(at) : new Token("", '?', text.length());
        }

        boolean sees(String word) {
            Token t = peek();
            return (t.kind == 'w' || t.kind == 's') && t.text.equals(word);
        }

        Token step() throws Fault {
            Token t = peek();
            if (at >= 400) {
                throw new Fault(2, t.place);
            }
            at++;
            return t;
        }

        Token take(String word) throws Fault {
            if (!sees(word)) {
                throw new Fault(1, peek().place);
            }
            return step();
        }

        Token takeKind(char kind) throws Fault {
            if (peek().kind != kind) {
                throw new Fault(1, peek().place);
            }
            return step();
        }

        void room(String sort, int place) throws Fault {
            counts.merge(sort, 1, Integer::sum);
            if (counts.get(sort) > 6) {
                throw new Fault(2, place);
            }
        }

        void flaw(int number, Token t) {
            if (meaning == null) {
                meaning = new Fault(number, t.place);
            }
        }

        int number(int least, int most) throws Fault {
            Token t = takeKind('i');
            int value = Integer.parseInt(t.text);
            if (value < least || value > most) {
                flaw(5, t);
            }
            return value;
        }

        void tell() throws Fault {
            Token first = peek();
            if (first.kind != 'w' || WORDS.indexOf(first.text) > 9) {
                throw new Fault(1, first.place);
            }
            step();
            switch (first.text) {
                case "role": {
                    room("role", first.place);
                    Token name = takeKind('n');
                    if (world.roles.contains(name.text) || world.listeners.contains(name.text)) {
                        flaw(3, name);
                    }
                    int knows = number(0, 255);
                    int fame = number(0, 9);
                    world.roles.add(name.text);
                    world.roleInts.add(new int[] {knows, fame});
                    break;
                }
                case "listener": {
                    room("listener", first.place);
                    Token name = takeKind('n');
                    if (world.roles.contains(name.text) || world.listeners.contains(name.text)) {
                        flaw(3, name);
                    }
                    int known = number(0, 255);
                    int needed = number(0, 255);
                    int belief = number(0, 99);
                    world.listeners.add(name.text);
                    world.listenerInts.add(new int[] {known, needed, belief});
                    break;
                }
                case "really": {
                    room("really", first.place);
                    Token one = takeKind('n');
                    int listener = world.listeners.indexOf(one.text);
                    if (listener < 0) {
                        flaw(4, one);
                    }
                    Token two = takeKind('n');
                    int role = world.roles.indexOf(two.text);
                    if (role < 0) {
                        flaw(4, two);
                    }
                    if (world.really(listener, role)) {
                        flaw(3, two);
                    }
                    world.really.add(new int[] {listener, role});
                    break;
                }
                case "crackle":
                    world.numbers.put("crackle", number(0, 100));
                    break;
                case "quiet":
                    world.numbers.put("quiet", number(1, 99));
                    break;
                case "seed":
                    world.numbers.put("seed", number(0, 9999));
                    break;
                default:
                    world.laws.put(first.text, law());
            }
            take(";");
        }

        Law law() throws Fault {
            take("=");
            Law law = new Law();
            while (sees("if")) {
                Token t = step();
                if (law.ifs.size() == 4) {
                    throw new Fault(2, t.place);
                }
                E less = sum();
                take("<");
                E than = sum();
                take("then");
                E then = sum();
                take("else");
                law.ifs.add(new E[] {less, than, then});
            }
            law.last = sum();
            return law;
        }

        E sum() throws Fault {
            E left = product();
            while (sees("+") || sees("-")) {
                boolean plus = step().text.equals("+");
                E a = left;
                E b = product();
                left = vars -> plus ? a.value(vars) + b.value(vars) : a.value(vars) - b.value(vars);
            }
            return left;
        }

        E product() throws Fault {
            E left = unit();
            while (sees("*") || sees("/")) {
                boolean times = step().text.equals("*");
                E a = left;
                E b = unit();
                left = vars -> {
                    int x = a.value(vars);
                    int y = b.value(vars);
                    if (times) {
                        return x * y;
                    }
                    if (y == 0) {
                        throw new ByZero();
                    }
                    return (int) ((long) x / (long) y);
                };
            }
            return left;
        }

        E unit() throws Fault {
            Token t = peek();
            if (sees("(")) {
                step();
                if (depth == 6) {
                    throw new Fault(2, t.place);
                }
                depth++;
                E inner = sum();
                take(")");
                depth--;
                return inner;
            }
            if (t.kind == 'i') {
                int value = Integer.parseInt(step().text);
                return vars -> value;
            }
            if (t.kind == 'w' && VARS.contains(t.text)) {
                String name = step().text;
                return vars -> vars.getOrDefault(name, 0);
            }
            throw new Fault(1, t.place);
        }
    }

    static final class State {
        int evening = 0;
        int announced = -1;
        int rung = 0;
        int[] known = {};
        int[] belief = {};
        boolean[] on = {};
        int[] heard = {};
        int[] quiet = {};

        State copy() {
            State s = new State();
            s.evening = evening;
            s.announced = announced;
            s.rung = rung;
            s.known = known.clone();
            s.belief = belief.clone();
            s.on = on.clone();
            s.heard = heard.clone();
            s.quiet = quiet.clone();
            return s;
        }
    }

    private String tape = "";
    private int place = -1;
    private World w = new World();
    private State s = new State();
    private final List<State> past = new ArrayList<>();
    private State[] slots = new State[3];
    private final List<int[]> told = new ArrayList<>();

    // ---- how it goes

    private boolean isRole(int r) {
        return r >= 0 && r < w.roles.size();
    }

    private boolean isListener(int l) {
        return l >= 0 && l < w.listeners.size();
    }

    private boolean has(int bits, int i) {
        return (bits & 1 << i) != 0;
    }

    private int size(int bits) {
        int n = 0;
        for (int i = 0; i < 8; i++) {
            n += has(bits, i) ? 1 : 0;
        }
        return n;
    }

    private int said(State st, int r) {
        int bits = 0;
        for (int f = 0; f < 8; f++) {
            Map<String, Integer> vars = new HashMap<>();
            vars.put("fame", w.roleInts.get(r)[1]);
            vars.put("times", st.heard[r]);
            vars.put("fact", f);
            vars.put("which", r);
            vars.put("evening", st.evening);
            if (has(w.roleInts.get(r)[0], f) && w.laws.get("says").told(vars) > 0) {
                bits += 1 << f;
            }
        }
        return bits;
    }

    private int law(String law, State st, int l, int r) {
        Map<String, Integer> vars = new HashMap<>();
        vars.put("fame", w.roleInts.get(r)[1]);
        vars.put("times", st.heard[r]);
        vars.put("belief", st.belief[l]);
        vars.put("known", size(st.known[l]));
        vars.put("parts", size(said(st, r)));
        vars.put("which", l);
        vars.put("same", w.really(l, r) ? 1 : 0);
        vars.put("evening", st.evening);
        int value = w.laws.get(law).told(vars);
        if (law.equals("moves")) {
            return value < -99 ? -99 : value > 99 ? 99 : value;
        }
        return value > 0 ? 1 : 0;
    }

    private boolean crackle(int seed, int evening) {
        int h = seed;
        for (int it : new int[] {141, 4 * evening}) {
            h = (h ^ it) * 1103515245 + 12345;
            h = h ^ (h >>> 15);
        }
        return (h >>> 1) % 100 < w.numbers.get("crackle");
    }

    private State after(State st, int r, boolean crackle) {
        State n = st.copy();
        for (int i = 0; i < n.quiet.length; i++) {
            n.quiet[i] = st.quiet[i] > 0 ? st.quiet[i] - 1 : 0;
        }
        n.announced = -1;
        n.evening++;
        if (r < 0 || crackle) {
            return n;
        }
        boolean rung = false;
        for (int l = 0; l < w.listeners.size(); l++) {
            if (!st.on[l]) {
                continue;
            }
            if (law("trusts", st, l, r) == 1) {
                n.known[l] |= said(st, r);
            }
            int belief = st.belief[l] + law("moves", st, l, r);
            n.belief[l] = belief < 0 ? 0 : belief > 99 ? 99 : belief;
            if (w.really(l, r) && law("rings", st, l, r) == 1) {
                rung = true;
            }
        }
        if (rung) {
            n.quiet[r] = w.numbers.get("quiet");
            n.rung++;
        }
        n.heard[r]++;
        return n;
    }

    private State afterEvenings(int n) {
        State st = s;
        for (int i = 0; i < n; i++) {
            st = after(st, st.announced, crackle(w.numbers.get("seed"), st.evening));
        }
        return st;
    }

    private int lacks(State st, int l) {
        return w.listenerInts.get(l)[1] & ~st.known[l];
    }

    private int done(State st) {
        int bits = 0;
        for (int l = 0; l < w.listeners.size(); l++) {
            bits |= lacks(st, l) == 0 ? 1 << l : 0;
        }
        return bits;
    }

    private int facts(State st) {
        int n = 0;
        for (int k : st.known) {
            n += size(k);
        }
        return n;
    }

    private int beliefs(State st) {
        int n = 0;
        for (int b : st.belief) {
            n += b;
        }
        return n;
    }

    private void doing() {
        past.add(s.copy());
        if (past.size() > 40) {
            past.remove(0);
        }
    }

    // ---- the face

    int feed(int... words) {
        if (tape.length() + 20 > 2000) {
            return -1;
        }
        for (int word : words) {
            tape += "" + (char) (word >> 24 & 255) + (char) (word >> 16 & 255) + (char) (word >> 8 & 255)
                    + (char) (word & 255);
        }
        return tape.length();
    }

    int back(int n) {
        if (n < 0 || n > tape.length()) {
            return -1;
        }
        tape = tape.substring(0, tape.length() - n);
        return tape.length();
    }

    int read() {
        String text = tape;
        tape = "";
        place = -1;
        try {
            w = Parser.parse(text);
        } catch (Fault f) {
            place = f.place;
            return f.number;
        }
        s = new State();
        int n = w.listeners.size();
        s.known = new int[n];
        s.belief = new int[n];
        s.on = new boolean[n];
        for (int l = 0; l < n; l++) {
            s.known[l] = w.listenerInts.get(l)[0];
            s.belief[l] = w.listenerInts.get(l)[2];
            s.on[l] = true;
        }
        s.heard = new int[w.roles.size()];
        s.quiet = new int[w.roles.size()];
        past.clear();
        told.clear();
        slots = new State[3];
        return 0;
    }

    int place() {
        return place;
    }

    int role(int r, int what) {
        if (!isRole(r) || what < 0 || what > 5) {
            return -1;
        }
        int bits = 0;
        for (int l = 0; l < w.listeners.size(); l++) {
            bits |= w.really(l, r) ? 1 << l : 0;
        }
        return new int[] {w.roleInts.get(r)[0], w.roleInts.get(r)[1], s.heard[r], s.quiet[r], bits,
            said(s, r)}[what];
    }

    int listener(int l, int what) {
        if (!isListener(l) || what < 0 || what > 5) {
            return -1;
        }
        int bits = 0;
        for (int r = 0; r < w.roles.size(); r++) {
            bits |= w.really(l, r) ? 1 << r : 0;
        }
        return new int[] {s.known[l], w.listenerInts.get(l)[1], s.belief[l], s.on[l] ? 1 : 0,
            lacks(s, l) == 0 ? 1 : 0, bits}[what];
    }

    int tells(int l, int r, int what) {
        if (!isListener(l) || !isRole(r) || what < 0 || what > 2) {
            return -100;
        }
        return law(new String[] {"trusts", "moves", "rings"}[what], s, l, r);
    }

    boolean announce(int r) {
        if (!isRole(r) || s.quiet[r] > 0 || s.announced == r) {
            return false;
        }
        doing();
        s.announced = r;
        return true;
    }

    boolean turn(int l, boolean on) {
        if (!isListener(l) || s.on[l] == on) {
            return false;
        }
        doing();
        s.on[l] = on;
        return true;
    }

    boolean inform(int l, int f) {
        if (!isListener(l) || f < 0 || f > 7 || has(s.known[l], f)) {
            return false;
        }
        doing();
        s.known[l] += 1 << f;
        return true;
    }

    private State talked(State st, int l, int o) {
        State n = st.copy();
        n.known[l] |= st.known[o];
        n.known[o] |= st.known[l];
        return n;
    }

    int talk(int l, int o) {
        if (!isListener(l) || !isListener(o) || l == o) {
            return -1;
        }
        doing();
        int before = facts(s);
        s = talked(s, l, o);
        return facts(s) - before;
    }

    int evenings(int n) {
        if (n < 0 || n > 30) {
            return -1;
        }
        if (n > 0) {
            doing();
            s = afterEvenings(n);
        }
        return s.evening;
    }

    boolean undo() {
        if (past.isEmpty()) {
            return false;
        }
        s = past.remove(past.size() - 1);
        return true;
    }

    private int trusting(int r) {
        int bits = 0;
        for (int l = 0; l < w.listeners.size(); l++) {
            bits |= s.on[l] && law("trusts", s, l, r) == 1 ? 1 << l : 0;
        }
        return bits;
    }

    int tonight(int r, int what) {
        if (!isRole(r) || what < 0 || what > 3) {
            return -1;
        }
        State n = after(s, r, false);
        return new int[] {said(s, r), trusting(r), done(n), facts(n) - facts(s)}[what];
    }

    int best(int what) {
        if (what < 0 || what > 1) {
            return -1;
        }
        int best = -2;
        int most = -2;
        for (int r = w.roles.size() - 1; r >= 0; r--) {
            if (s.quiet[r] == 0 && tonight(r, 3) >= most) {
                best = r;
                most = tonight(r, 3);
            }
        }
        return what == 0 ? best : most;
    }

    /** All rows of a length, in order; each is gone through from the start. */
    private int[] row(int listener, int length) {
        int n = w.roles.size();
        int rows = 1;
        for (int i = 0; i < length; i++) {
            rows *= n;
        }
        for (int k = 0; k < rows; k++) {
            int[] row = new int[length];
            int rest = k;
            for (int i = length - 1; i >= 0; i--) {
                row[i] = rest % n;
                rest /= n;
            }
            State st = s;
            boolean fits = true;
            for (int r : row) {
                fits = fits && st.quiet[r] == 0;
                st = fits ? after(st, r, false) : st;
            }
            int want = listener < 0 ? (1 << w.listeners.size()) - 1 : 1 << listener;
            if (fits && (done(st) & want) == want) {
                return row;
            }
        }
        return null;
    }

    int plan(int l, int i) {
        if (l != -1 && !isListener(l) || i < -1 || i > 3) {
            return -1;
        }
        for (int length = 0; length <= 4; length++) {
            int[] row = row(l, length);
            if (row != null) {
                return i == -1 ? length : i < length ? row[i] : -1;
            }
        }
        return -2;
    }

    int star(int what) {
        if (what < 0 || what > 1) {
            return -1;
        }
        int star = -2;
        int most = -2;
        for (int r = w.roles.size() - 1; r >= 0; r--) {
            if (size(trusting(r)) >= most) {
                star = r;
                most = size(trusting(r));
            }
        }
        return what == 0 ? star : most;
    }

    int credit(int l) {
        if (!isListener(l)) {
            return -1;
        }
        int bits = 0;
        for (int r = 0; r < w.roles.size(); r++) {
            bits |= law("trusts", s, l, r) << r;
        }
        return bits;
    }

    int missing(int l) {
        return isListener(l) ? lacks(s, l) : -1;
    }

    int holders(int f) {
        if (f < 0 || f > 7) {
            return -1;
        }
        int bits = 0;
        for (int l = 0; l < w.listeners.size(); l++) {
            bits |= has(s.known[l], f) ? 1 << l : 0;
        }
        return bits;
    }

    int rarest(int what) {
        if (what < 0 || what > 1) {
            return -1;
        }
        for (int n = 0; n <= 6; n++) {
            for (int f = 0; f < 8; f++) {
                if (size(holders(f)) == n) {
                    return what == 0 ? f : n;
                }
            }
        }
        return -9;
    }

    private State behind(int r, int n, int seed, boolean crackling) {
        State st = s;
        for (int i = 0; i < n; i++) {
            st = after(st, st.quiet[r] > 0 ? -1 : r, crackling && crackle(seed, st.evening));
        }
        return st;
    }

    int series(int r, int n) {
        return isRole(r) && n >= 1 && n <= 30 ? facts(behind(r, n, 0, false)) - facts(s) : -1;
    }

    int longOf(int l, int r) {
        if (!isListener(l) || !isRole(r)) {
            return -1;
        }
        for (int n = 0; n <= 30; n++) {
            if (has(done(behind(r, n, 0, false)), l)) {
                return n;
            }
        }
        return -2;
    }

    int callers(int r) {
        if (!isRole(r)) {
            return -1;
        }
        int bits = 0;
        for (int l = 0; l < w.listeners.size(); l++) {
            bits |= w.really(l, r) && s.on[l] && law("rings", s, l, r) == 1 ? 1 << l : 0;
        }
        return bits;
    }

    int sway(int r) {
        return isRole(r) ? beliefs(after(s, r, false)) - beliefs(s) : -100000;
    }

    int circle(int l, int what) {
        if (!isListener(l) || what < 0 || what > 1) {
            return -1;
        }
        for (int n = 0; n <= 5; n++) {
            for (int bits = 0; bits < 1 << w.listeners.size(); bits++) {
                int all = s.known[l];
                for (int o = 0; o < w.listeners.size(); o++) {
                    all |= has(bits, o) ? s.known[o] : 0;
                }
                boolean enough = (w.listenerInts.get(l)[1] & ~all) == 0;
                if (size(bits) == n && !has(bits, l) && enough) {
                    return what == 0 ? n : bits;
                }
            }
        }
        return -2;
    }

    int doubles() {
        int n = 0;
        for (int a = 0; a < w.roles.size(); a++) {
            for (int b = 0; b < a; b++) {
                boolean one = false;
                for (int l = 0; l < w.listeners.size(); l++) {
                    one |= w.really(l, a) && w.really(l, b);
                }
                n += one ? 1 : 0;
            }
        }
        return n;
    }

    int faith(int n) {
        return n < 0 || n > 30 ? -1 : beliefs(afterEvenings(n));
    }

    int never(int l) {
        if (!isListener(l)) {
            return -1;
        }
        int bits = lacks(s, l);
        for (int[] r : w.roleInts) {
            bits &= ~r[0];
        }
        return bits;
    }

    int apart(int what) {
        if (what < 0 || what > 1) {
            return -1;
        }
        for (int n = 0; n <= 8; n++) {
            for (int bits = 0; bits < 256; bits++) {
                List<Integer> seen = new ArrayList<>();
                boolean all = size(bits) == n;
                for (int[] r : w.roleInts) {
                    all = all && !seen.contains(r[0] & bits);
                    seen.add(r[0] & bits);
                }
                if (all) {
                    return what == 0 ? n : bits;
                }
            }
        }
        return -2;
    }

    int unlike(int r, int o) {
        if (!isRole(r) || !isRole(o) || r == o) {
            return -1;
        }
        int a = w.roleInts.get(r)[0];
        int b = w.roleInts.get(o)[0];
        return (a | b) & ~(a & b);
    }

    int rumour(int what) {
        if (what < 0 || what > 1) {
            return -1;
        }
        int two = -2;
        int most = 0;
        for (int l = 0; l < w.listeners.size(); l++) {
            for (int o = l + 1; o < w.listeners.size(); o++) {
                int more = facts(talked(s, l, o)) - facts(s);
                if (more > most) {
                    most = more;
                    two = 10 * l + o;
                }
            }
        }
        return what == 0 || most == 0 ? two : most;
    }

    private boolean byTalks(State st, int l, int n) {
        if (lacks(st, l) == 0) {
            return true;
        }
        for (int a = 0; n > 0 && a < w.listeners.size(); a++) {
            for (int b = 0; b < a; b++) {
                if (byTalks(talked(st, a, b), l, n - 1)) {
                    return true;
                }
            }
        }
        return false;
    }

    int talks(int l) {
        if (!isListener(l)) {
            return -1;
        }
        for (int n = 0; n <= 3; n++) {
            if (byTalks(s, l, n)) {
                return n;
            }
        }
        return -2;
    }

    int then(int l, int n, int what) {
        if (!isListener(l) || n < 0 || n > 30 || what < 0 || what > 1) {
            return -1;
        }
        State st = afterEvenings(n);
        return what == 0 ? st.known[l] : st.belief[l];
    }

    int quietIn(int r, int n) {
        return isRole(r) && n >= 0 && n <= 30 ? afterEvenings(n).quiet[r] : -1;
    }

    int sure(int l, int r, int n, int seeds) {
        if (!isListener(l) || !isRole(r) || n < 0 || n > 30 || seeds < 1 || seeds > 20) {
            return -1;
        }
        int sure = 0;
        for (int i = 0; i < seeds; i++) {
            sure += has(done(behind(r, n, w.numbers.get("seed") + i, true)), l) ? 1 : 0;
        }
        return sure;
    }

    private int tell(int kind, int which, boolean so) {
        if (told.size() == 20) {
            return -1;
        }
        told.add(new int[] {kind, which, so ? 1 : 0});
        return told.size() - 1;
    }

    int tellFact(int f, boolean so) {
        return f < 0 || f > 7 ? -1 : tell(0, f, so);
    }

    int tellDone(int l, boolean so) {
        return isListener(l) ? tell(1, l, so) : -1;
    }

    int forget() {
        int n = told.size();
        told.clear();
        return n;
    }

    private List<Integer> left(int k) {
        List<Integer> left = new ArrayList<>();
        for (int r = 0; r < w.roles.size(); r++) {
            boolean all = true;
            for (int[] t : told.subList(0, k)) {
                int bits = t[0] == 0 ? said(s, r) : done(after(s, r, false));
                all = all && has(bits, t[1]) == (t[2] == 1);
            }
            if (all) {
                left.add(r);
            }
        }
        return left;
    }

    int who(int k, int what) {
        if (k < 0 || k > told.size() || what < 0 || what > 1) {
            return -1;
        }
        int bits = 0;
        for (int r : left(k)) {
            bits |= 1 << r;
        }
        return what == 0 ? left(k).size() : bits;
    }

    int ask(int k) {
        if (k < 0 || k > told.size()) {
            return -1;
        }
        if (left(k).isEmpty()) {
            return -2;
        }
        int best = -1;
        int least = 99;
        for (int f = 0; f < 8; f++) {
            int yes = 0;
            int no = 0;
            for (int r : left(k)) {
                if (has(said(s, r), f)) {
                    yes++;
                } else {
                    no++;
                }
            }
            if (Math.max(yes, no) < least) {
                least = Math.max(yes, no);
                best = f;
            }
        }
        return best;
    }

    boolean hold(int slot) {
        if (slot < 0 || slot > 2) {
            return false;
        }
        slots[slot] = s.copy();
        return true;
    }

    boolean restore(int slot) {
        if (slot < 0 || slot > 2 || slots[slot] == null) {
            return false;
        }
        s = slots[slot].copy();
        past.clear();
        return true;
    }

    int count(int what) {
        int quiet = 0;
        int heard = 0;
        int unheard = 0;
        for (int r = 0; r < w.roles.size(); r++) {
            quiet |= s.quiet[r] > 0 ? 1 << r : 0;
            heard += s.heard[r];
            unheard |= s.heard[r] == 0 ? 1 << r : 0;
        }
        int on = 0;
        int real = 0;
        for (int l = 0; l < w.listeners.size(); l++) {
            on |= s.on[l] ? 1 << l : 0;
            real |= listener(l, 5) != 0 ? 1 << l : 0;
        }
        int held = 0;
        for (State slot : slots) {
            held += slot != null ? 1 : 0;
        }
        int[] all = {w.roles.size(), w.listeners.size(), s.evening, s.announced < 0 ? -2 : s.announced, quiet,
            done(s), on, facts(s), tape.length(), past.size(), told.size(), held,
            crackle(w.numbers.get("seed"), s.evening) ? 1 : 0, heard, s.rung, unheard, beliefs(s), real};
        return what < 0 || what >= all.length ? -1 : all[what];
    }
}
