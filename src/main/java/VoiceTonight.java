import java.util.Arrays;

/** A voice on a band that says who will be speaking, coughs, and is that. */
public final class VoiceTonight {
    public static final int NONE = -1;

    private static final int NOTHING_FITS = -2;
    private static final int NO_LAW_TOLD = -100;
    private static final int NO_SWAY = -100000;

    private static final int MOST = 6;
    private static final int FACTS = 8;
    private static final int MOST_EVENINGS = 30;
    private static final int MOST_SEEDS = 20;
    private static final int MOST_PLANNED = 4;
    private static final int MOST_TALKS = 3;
    private static final int MOST_TOLD = 20;
    private static final int MOST_UNDONE = 40;
    private static final int SLOTS = 3;
    private static final int MOST_BYTES = 2000;
    private static final int MOST_TOKENS = 400;

    private static final int SAYS = 0;
    private static final int TRUSTS = 1;
    private static final int MOVES = 2;
    private static final int RINGS = 3;
    private static final int LAWS = 4;

    private static final int FAME = 0;
    private static final int TIMES = 1;
    private static final int FACT = 2;
    private static final int EVENING = 3;
    private static final int BELIEF = 4;
    private static final int KNOWN = 5;
    private static final int PARTS_SAID = 6;
    private static final int WHICH = 7;
    private static final int SAME = 8;
    private static final int VARS = 9;

    private final byte[] tape = new byte[MOST_BYTES];
    private int taped = 0;
    private int faultPlace = NONE;
    private final Reader reader = new Reader();
    private Text text = new Text();
    private Text spare = new Text();
    private final Night now = new Night();
    private final Night trial = new Night();
    private final Planner planner = new Planner();
    private final Memory memory = new Memory();
    private final Told told = new Told();

    public VoiceTonight() {
    }

    // ---- the tape

    public int feed(int a, int b, int c, int d, int e) {
        if (taped + 20 > MOST_BYTES) {
            return NONE;
        }
        putOnTape(a);
        putOnTape(b);
        putOnTape(c);
        putOnTape(d);
        putOnTape(e);
        return taped;
    }

    private void putOnTape(int four) {
        for (int shift = 24; shift >= 0 && taped < MOST_BYTES; shift -= 8) {
            tape[taped] = (byte) (four >>> shift);
            taped++;
        }
    }

    public int back(int n) {
        if (n < 0 || n > taped) {
            return NONE;
        }
        taped -= n;
        return taped;
    }

    public int read() {
        int fault = reader.readInto(spare, tape, taped);
        taped = 0;
        faultPlace = reader.faultPlace;
        if (fault == 0) {
            Text ahead = text;
            text = spare;
            spare = ahead;
            text.begin(now);
            memory.forgetAll();
            told.size = 0;
        }
        return fault;
    }

    public int place() {
        return faultPlace;
    }

    // ---- what is

    public int role(int role, int what) {
        if (!text.hasRole(role)) {
            return NONE;
        }
        switch (what) {
            case 0: return text.knows[role];
            case 1: return text.fame[role];
            case 2: return now.heard[role];
            case 3: return now.quiet[role];
            case 4: return text.reallyIt(role);
            case 5: return text.saidBy(now, role);
            default: return NONE;
        }
    }

    public int listener(int listener, int what) {
        if (!text.hasListener(listener)) {
            return NONE;
        }
        switch (what) {
            case 0: return now.known[listener];
            case 1: return text.needed[listener];
            case 2: return now.belief[listener];
            case 3: return now.isOn(listener) ? 1 : 0;
            case 4: return text.hasDone(now, listener) ? 1 : 0;
            case 5: return text.really[listener];
            default: return NONE;
        }
    }

    public int tells(int listener, int role, int what) {
        if (!text.hasListener(listener) || !text.hasRole(role) || what < 0 || what > 2) {
            return NO_LAW_TOLD;
        }
        text.lookAt(now, listener, role, text.saidBy(now, role));
        switch (what) {
            case 0: return text.laws.tell(TRUSTS) > 0 ? 1 : 0;
            case 1: return text.laws.tell(MOVES);
            default: return text.laws.tell(RINGS) > 0 ? 1 : 0;
        }
    }

    public int count(int what) {
        switch (what) {
            case 0: return text.roles;
            case 1: return text.listeners;
            case 2: return now.evening;
            case 3: return now.announced == NONE ? NOTHING_FITS : now.announced;
            case 4: return text.quietRoles(now);
            case 5: return text.doneBy(now);
            case 6: return now.on;
            case 7: return now.factsKnown();
            case 8: return taped;
            case 9: return memory.size;
            case 10: return told.size;
            case 11: return Integer.bitCount(memory.held);
            case 12: return text.crackles(text.seed, now.evening) ? 1 : 0;
            case 13: return now.timesHeard();
            case 14: return now.rung;
            case 15: return text.neverHeard(now);
            case 16: return now.beliefOfAll();
            case 17: return text.reallySome();
            default: return NONE;
        }
    }

    // ---- by hand

    public boolean announce(int role) {
        if (!text.hasRole(role) || now.announced == role || now.quiet[role] > 0) {
            return false;
        }
        memory.remember(now);
        now.announced = role;
        return true;
    }

    public boolean turn(int listener, boolean on) {
        if (!text.hasListener(listener) || now.isOn(listener) == on) {
            return false;
        }
        memory.remember(now);
        now.on ^= 1 << listener;
        return true;
    }

    public boolean inform(int listener, int fact) {
        if (!text.hasListener(listener) || !isFact(fact) || holds(now.known[listener], fact)) {
            return false;
        }
        memory.remember(now);
        now.known[listener] |= 1 << fact;
        return true;
    }

    public int talk(int listener, int other) {
        if (!text.hasListener(listener) || !text.hasListener(other) || listener == other) {
            return NONE;
        }
        memory.remember(now);
        int gained = gainOfTalk(listener, other);
        int both = now.known[listener] | now.known[other];
        now.known[listener] = both;
        now.known[other] = both;
        return gained;
    }

    private int gainOfTalk(int listener, int other) {
        return Integer.bitCount(now.known[listener] ^ now.known[other]);
    }

    public int evenings(int n) {
        if (!isNumberOfEvenings(n)) {
            return NONE;
        }
        if (n > 0) {
            memory.remember(now);
            text.passEvenings(now, n);
        }
        return now.evening;
    }

    public boolean undo() {
        return memory.takeBack(now);
    }

    public boolean hold(int slot) {
        return memory.keep(slot, now);
    }

    public boolean restore(int slot) {
        return memory.giveBack(slot, now);
    }

    // ---- what would be this evening

    public int tonight(int role, int what) {
        if (!text.hasRole(role) || what < 0 || what > 3) {
            return NONE;
        }
        switch (what) {
            case 0: return text.saidBy(now, role);
            case 1: return trusting(role) & now.on;
            case 2: return doneBehind(role);
            default: return gainOf(role);
        }
    }

    /** LISTENERS, their set ON or not, who would TRUST a ROLE. */
    private int trusting(int role) {
        int said = text.saidBy(now, role);
        int bits = 0;
        for (int l = 0; l < text.listeners; l++) {
            text.lookAt(now, l, role, said);
            if (text.laws.tell(TRUSTS) > 0) {
                bits |= 1 << l;
            }
        }
        return bits;
    }

    private void tryTonight(int role) {
        trial.become(now);
        text.passEvening(trial, role, false);
    }

    private int doneBehind(int role) {
        tryTonight(role);
        return text.doneBy(trial);
    }

    private int gainOf(int role) {
        tryTonight(role);
        return trial.factsKnown() - now.factsKnown();
    }

    public int best(int what) {
        if (what < 0 || what > 1) {
            return NONE;
        }
        int best = NOTHING_FITS;
        int most = NOTHING_FITS;
        for (int r = 0; r < text.roles; r++) {
            int gain = now.quiet[r] > 0 ? NOTHING_FITS : gainOf(r);
            if (gain > most) {
                most = gain;
                best = r;
            }
        }
        return what == 0 ? best : most;
    }

    public int star(int what) {
        if (what < 0 || what > 1) {
            return NONE;
        }
        int star = NOTHING_FITS;
        int most = NOTHING_FITS;
        for (int r = 0; r < text.roles; r++) {
            int trusting = Integer.bitCount(trusting(r) & now.on);
            if (trusting > most) {
                most = trusting;
                star = r;
            }
        }
        return what == 0 ? star : most;
    }

    public int credit(int listener) {
        if (!text.hasListener(listener)) {
            return NONE;
        }
        int bits = 0;
        for (int r = 0; r < text.roles; r++) {
            text.lookAt(now, listener, r, text.saidBy(now, r));
            if (text.laws.tell(TRUSTS) > 0) {
                bits |= 1 << r;
            }
        }
        return bits;
    }

    public int callers(int role) {
        if (!text.hasRole(role)) {
            return NONE;
        }
        int said = text.saidBy(now, role);
        int bits = 0;
        for (int l = 0; l < text.listeners; l++) {
            text.lookAt(now, l, role, said);
            if (now.isOn(l) && text.isReally(l, role) && text.laws.tell(RINGS) > 0) {
                bits |= 1 << l;
            }
        }
        return bits;
    }

    public int sway(int role) {
        if (!text.hasRole(role)) {
            return NO_SWAY;
        }
        tryTonight(role);
        return trial.beliefOfAll() - now.beliefOfAll();
    }

    // ---- what would be in evenings to come

    public int plan(int listener, int i) {
        boolean forAll = listener == NONE;
        if (!forAll && !text.hasListener(listener) || i < NONE || i >= MOST_PLANNED) {
            return NONE;
        }
        int length = planner.fewest(text, now, listener);
        if (length == NOTHING_FITS || i == NONE) {
            return length;
        }
        return i < length ? planner.roles[i] : NONE;
    }

    public int series(int role, int n) {
        if (!text.hasRole(role) || n < 1 || !isNumberOfEvenings(n)) {
            return NONE;
        }
        trial.become(now);
        for (int i = 0; i < n; i++) {
            text.passEveningOf(trial, role, false);
        }
        return trial.factsKnown() - now.factsKnown();
    }

    public int longOf(int listener, int role) {
        if (!text.hasListener(listener) || !text.hasRole(role)) {
            return NONE;
        }
        trial.become(now);
        for (int i = 0; i < MOST_EVENINGS; i++) {
            if (text.hasDone(trial, listener)) {
                return i;
            }
            text.passEveningOf(trial, role, false);
        }
        return text.hasDone(trial, listener) ? MOST_EVENINGS : NOTHING_FITS;
    }

    public int faith(int n) {
        if (!isNumberOfEvenings(n)) {
            return NONE;
        }
        tryEvenings(n);
        return trial.beliefOfAll();
    }

    public int then(int listener, int n, int what) {
        if (!text.hasListener(listener) || !isNumberOfEvenings(n) || what < 0 || what > 1) {
            return NONE;
        }
        tryEvenings(n);
        return what == 0 ? trial.known[listener] : trial.belief[listener];
    }

    public int quietIn(int role, int n) {
        if (!text.hasRole(role) || !isNumberOfEvenings(n)) {
            return NONE;
        }
        tryEvenings(n);
        return trial.quiet[role];
    }

    private void tryEvenings(int n) {
        trial.become(now);
        text.passEvenings(trial, n);
    }

    public int sure(int listener, int role, int n, int s) {
        if (!text.hasListener(listener) || !text.hasRole(role) || !isNumberOfEvenings(n)) {
            return NONE;
        }
        if (s < 1 || s > MOST_SEEDS) {
            return NONE;
        }
        int done = 0;
        for (int i = 0; i < s; i++) {
            tryRow(role, n, text.seed + i);
            if (text.hasDone(trial, listener)) {
                done++;
            }
        }
        return done;
    }

    private void tryRow(int role, int n, int seed) {
        trial.become(now);
        for (int i = 0; i < n; i++) {
            text.passEveningOf(trial, role, text.crackles(seed, trial.evening));
        }
    }

    // ---- who knows what, and who could

    public int missing(int listener) {
        return text.hasListener(listener) ? text.lackedBy(now, listener) : NONE;
    }

    public int holders(int fact) {
        return isFact(fact) ? holdersOf(fact) : NONE;
    }

    private int holdersOf(int fact) {
        int bits = 0;
        for (int l = 0; l < text.listeners; l++) {
            if (holds(now.known[l], fact)) {
                bits |= 1 << l;
            }
        }
        return bits;
    }

    public int rarest(int what) {
        if (what < 0 || what > 1) {
            return NONE;
        }
        int rarest = 0;
        int fewest = MOST + 1;
        for (int fact = 0; fact < FACTS; fact++) {
            int knowing = Integer.bitCount(holdersOf(fact));
            if (knowing < fewest) {
                fewest = knowing;
                rarest = fact;
            }
        }
        return what == 0 ? rarest : fewest;
    }

    public int never(int listener) {
        if (!text.hasListener(listener)) {
            return NONE;
        }
        return text.lackedBy(now, listener) & ~text.knownByRoles();
    }

    public int circle(int listener, int what) {
        if (!text.hasListener(listener) || what < 0 || what > 1) {
            return NONE;
        }
        int others = circleOf(listener);
        return what == 1 || others == NOTHING_FITS ? others : Integer.bitCount(others);
    }

    private int circleOf(int listener) {
        int best = NOTHING_FITS;
        int fewest = MOST;
        for (int others = 0; others < 1 << text.listeners; others++) {
            int size = Integer.bitCount(others);
            if (size < fewest && !holds(others, listener) && together(listener, others)) {
                best = others;
                fewest = size;
            }
        }
        return best;
    }

    private boolean together(int listener, int others) {
        int lacked = text.lackedBy(now, listener);
        for (int l = 0; l < text.listeners; l++) {
            if (holds(others, l)) {
                lacked &= ~now.known[l];
            }
        }
        return lacked == 0;
    }

    public int rumour(int what) {
        if (what < 0 || what > 1) {
            return NONE;
        }
        int pair = NOTHING_FITS;
        int most = 0;
        for (int l = 0; l < text.listeners; l++) {
            for (int other = l + 1; other < text.listeners; other++) {
                int gain = gainOfTalk(l, other);
                if (gain > most) {
                    most = gain;
                    pair = 10 * l + other;
                }
            }
        }
        return what == 0 || most == 0 ? pair : most;
    }

    /**
     * In t talks a LISTENER can come to know only what t others knew, as each talk brings in one
     * more at most; and talking to t others, one by one, is enough for that. So it is their CIRCLE.
     */
    public int talks(int listener) {
        if (!text.hasListener(listener)) {
            return NONE;
        }
        int others = circleOf(listener);
        if (others == NOTHING_FITS || Integer.bitCount(others) > MOST_TALKS) {
            return NOTHING_FITS;
        }
        return Integer.bitCount(others);
    }

    // ---- roles among one another

    public int doubles() {
        int pairs = 0;
        for (int r = 0; r < text.roles; r++) {
            for (int other = r + 1; other < text.roles; other++) {
                if ((text.reallyIt(r) & text.reallyIt(other)) != 0) {
                    pairs++;
                }
            }
        }
        return pairs;
    }

    public int apart(int what) {
        if (what < 0 || what > 1) {
            return NONE;
        }
        int best = NOTHING_FITS;
        int fewest = FACTS + 1;
        for (int facts = 0; facts < 1 << FACTS; facts++) {
            int size = Integer.bitCount(facts);
            if (size < fewest && text.tellsRolesApart(facts)) {
                best = facts;
                fewest = size;
            }
        }
        return what == 1 || best == NOTHING_FITS ? best : fewest;
    }

    public int unlike(int role, int other) {
        if (!text.hasRole(role) || !text.hasRole(other) || role == other) {
            return NONE;
        }
        return text.knows[role] ^ text.knows[other];
    }

    // ---- who it was

    public int tellFact(int fact, boolean said) {
        return isFact(fact) ? told.add(false, fact, said) : NONE;
    }

    public int tellDone(int listener, boolean done) {
        return text.hasListener(listener) ? told.add(true, listener, done) : NONE;
    }

    public int forget() {
        int forgotten = told.size;
        told.size = 0;
        return forgotten;
    }

    public int who(int k, int what) {
        if (k < 0 || k > told.size || what < 0 || what > 1) {
            return NONE;
        }
        int left = rolesLeft(k);
        return what == 0 ? Integer.bitCount(left) : left;
    }

    private int rolesLeft(int k) {
        int bits = 0;
        for (int r = 0; r < text.roles; r++) {
            tryTonight(r);
            if (told.isSo(k, text.saidBy(now, r), text.doneBy(trial))) {
                bits |= 1 << r;
            }
        }
        return bits;
    }

    public int ask(int k) {
        if (k < 0 || k > told.size) {
            return NONE;
        }
        int left = rolesLeft(k);
        if (left == 0) {
            return NOTHING_FITS;
        }
        int best = 0;
        int fewest = MOST + 1;
        for (int fact = 0; fact < FACTS; fact++) {
            int saying = Integer.bitCount(left & rolesSaying(fact));
            int worst = Math.max(saying, Integer.bitCount(left) - saying);
            if (worst < fewest) {
                fewest = worst;
                best = fact;
            }
        }
        return best;
    }

    private int rolesSaying(int fact) {
        int bits = 0;
        for (int r = 0; r < text.roles; r++) {
            if (holds(text.saidBy(now, r), fact)) {
                bits |= 1 << r;
            }
        }
        return bits;
    }

    // ---- small questions

    private static boolean isFact(int fact) {
        return fact >= 0 && fact < FACTS;
    }

    private static boolean isNumberOfEvenings(int n) {
        return n >= 0 && n <= MOST_EVENINGS;
    }

    private static boolean holds(int bits, int which) {
        return (bits >>> which & 1) != 0;
    }

    private static int within(int value, int least, int most) {
        return Math.max(least, Math.min(most, value));
    }

    /** All that goes on from evening to evening. */
    private static final class Night {
        private final int[] known = new int[MOST];
        private final int[] belief = new int[MOST];
        private final int[] heard = new int[MOST];
        private final int[] quiet = new int[MOST];
        private int on = 0;
        private int evening = 0;
        private int announced = NONE;
        private int rung = 0;

        void become(Night other) {
            System.arraycopy(other.known, 0, known, 0, MOST);
            System.arraycopy(other.belief, 0, belief, 0, MOST);
            System.arraycopy(other.heard, 0, heard, 0, MOST);
            System.arraycopy(other.quiet, 0, quiet, 0, MOST);
            on = other.on;
            evening = other.evening;
            announced = other.announced;
            rung = other.rung;
        }

        boolean isOn(int listener) {
            return holds(on, listener);
        }

        int factsKnown() {
            int facts = 0;
            for (int l = 0; l < MOST; l++) {
                facts += Integer.bitCount(known[l]);
            }
            return facts;
        }

        int beliefOfAll() {
            int sum = 0;
            for (int l = 0; l < MOST; l++) {
                sum += belief[l];
            }
            return sum;
        }

        int timesHeard() {
            int sum = 0;
            for (int r = 0; r < MOST; r++) {
                sum += heard[r];
            }
            return sum;
        }
    }

    /** What a text told, and how evenings go by its LAWS. */
    private static final class Text {
        private static final int MOST_BELIEF = 99;
        private static final int USUAL_QUIET = 3;

        private int roles = 0;
        private final long[] roleNames = new long[MOST];
        private final int[] knows = new int[MOST];
        private final int[] fame = new int[MOST];
        private int listeners = 0;
        private final long[] listenerNames = new long[MOST];
        private final int[] knownFirst = new int[MOST];
        private final int[] needed = new int[MOST];
        private final int[] beliefFirst = new int[MOST];
        private int reallies = 0;
        private final int[] really = new int[MOST];
        private final Laws laws = new Laws();
        private int crackle = 0;
        private int quiet = USUAL_QUIET;
        private int seed = 0;

        void clear() {
            roles = 0;
            listeners = 0;
            reallies = 0;
            Arrays.fill(knownFirst, 0);
            Arrays.fill(beliefFirst, 0);
            Arrays.fill(really, 0);
            laws.clear();
            crackle = 0;
            quiet = USUAL_QUIET;
            seed = 0;
        }

        void addRole(long name) {
            if (roles < MOST) {
                roleNames[roles] = name;
                roles++;
            }
        }

        void setRole(int step, int value) {
            if (roles > 0 && step == 1) {
                knows[roles - 1] = value;
            } else if (roles > 0) {
                fame[roles - 1] = value;
            }
        }

        void addListener(long name) {
            if (listeners < MOST) {
                listenerNames[listeners] = name;
                listeners++;
            }
        }

        void setListener(int step, int value) {
            if (listeners > 0 && step == 1) {
                knownFirst[listeners - 1] = value;
            } else if (listeners > 0 && step == 2) {
                needed[listeners - 1] = value;
            } else if (listeners > 0) {
                beliefFirst[listeners - 1] = value;
            }
        }

        void addReally(int listener, int role) {
            reallies++;
            if (hasListener(listener) && hasRole(role)) {
                really[listener] |= 1 << role;
            }
        }

        void begin(Night night) {
            System.arraycopy(knownFirst, 0, night.known, 0, MOST);
            System.arraycopy(beliefFirst, 0, night.belief, 0, MOST);
            Arrays.fill(night.heard, 0);
            Arrays.fill(night.quiet, 0);
            night.on = (1 << listeners) - 1;
            night.evening = 0;
            night.announced = NONE;
            night.rung = 0;
        }

        boolean hasRole(int role) {
            return role >= 0 && role < roles;
        }

        boolean hasListener(int listener) {
            return listener >= 0 && listener < listeners;
        }

        int roleNamed(long name) {
            for (int r = 0; r < roles; r++) {
                if (roleNames[r] == name) {
                    return r;
                }
            }
            return NONE;
        }

        int listenerNamed(long name) {
            for (int l = 0; l < listeners; l++) {
                if (listenerNames[l] == name) {
                    return l;
                }
            }
            return NONE;
        }

        boolean isReally(int listener, int role) {
            return holds(really[listener], role);
        }

        int reallyIt(int role) {
            int bits = 0;
            for (int l = 0; l < listeners; l++) {
                if (isReally(l, role)) {
                    bits |= 1 << l;
                }
            }
            return bits;
        }

        int reallySome() {
            int bits = 0;
            for (int l = 0; l < listeners; l++) {
                if (really[l] != 0) {
                    bits |= 1 << l;
                }
            }
            return bits;
        }

        int knownByRoles() {
            int facts = 0;
            for (int r = 0; r < roles; r++) {
                facts |= knows[r];
            }
            return facts;
        }

        boolean tellsRolesApart(int facts) {
            for (int r = 0; r < roles; r++) {
                for (int other = r + 1; other < roles; other++) {
                    if (((knows[r] ^ knows[other]) & facts) == 0) {
                        return false;
                    }
                }
            }
            return true;
        }

        int lackedBy(Night night, int listener) {
            return needed[listener] & ~night.known[listener];
        }

        int lackedByAny(Night night, int wanted) {
            int facts = 0;
            for (int l = 0; l < listeners; l++) {
                facts |= holds(wanted, l) ? lackedBy(night, l) : 0;
            }
            return facts;
        }

        boolean hasDone(Night night, int listener) {
            return lackedBy(night, listener) == 0;
        }

        /** LISTENERS who lack what no evening can bring them, however their sets stay. */
        int hopelessIn(Night night) {
            int bits = 0;
            for (int l = 0; l < listeners; l++) {
                int canCome = night.isOn(l) ? knownByRoles() : 0;
                if ((lackedBy(night, l) & ~canCome) != 0) {
                    bits |= 1 << l;
                }
            }
            return bits;
        }

        int doneBy(Night night) {
            int bits = 0;
            for (int l = 0; l < listeners; l++) {
                if (hasDone(night, l)) {
                    bits |= 1 << l;
                }
            }
            return bits;
        }

        int quietRoles(Night night) {
            int bits = 0;
            for (int r = 0; r < roles; r++) {
                if (night.quiet[r] > 0) {
                    bits |= 1 << r;
                }
            }
            return bits;
        }

        int neverHeard(Night night) {
            int bits = 0;
            for (int r = 0; r < roles; r++) {
                if (night.heard[r] == 0) {
                    bits |= 1 << r;
                }
            }
            return bits;
        }

        int saidBy(Night night, int role) {
            laws.forgetVars();
            laws.vars[FAME] = fame[role];
            laws.vars[TIMES] = night.heard[role];
            laws.vars[EVENING] = night.evening;
            laws.vars[WHICH] = role;
            int bits = 0;
            for (int fact = 0; fact < FACTS; fact++) {
                laws.vars[FACT] = fact;
                if (holds(knows[role], fact) && laws.tell(SAYS) > 0) {
                    bits |= 1 << fact;
                }
            }
            return bits;
        }

        /** Sets all that TRUSTS, MOVES and RINGS look at, for laws.tell() to answer by it. */
        void lookAt(Night night, int listener, int role, int said) {
            laws.forgetVars();
            laws.vars[FAME] = fame[role];
            laws.vars[TIMES] = night.heard[role];
            laws.vars[EVENING] = night.evening;
            laws.vars[BELIEF] = night.belief[listener];
            laws.vars[KNOWN] = Integer.bitCount(night.known[listener]);
            laws.vars[PARTS_SAID] = Integer.bitCount(said);
            laws.vars[WHICH] = listener;
            laws.vars[SAME] = isReally(listener, role) ? 1 : 0;
        }

        boolean crackles(int bySeed, int evening) {
            return lot(100, bySeed, 4 * evening) < crackle;
        }

        private static int lot(int n, int bySeed, int which) {
            int h = stirred(stirred(bySeed, 141), which);
            return n > 0 ? (h >>> 1) % n : 0;
        }

        private static int stirred(int h, int it) {
            int next = (h ^ it) * 1103515245 + 12345;
            return next ^ next >>> 15;
        }

        void passEvenings(Night night, int n) {
            for (int i = 0; i < n; i++) {
                passEvening(night, night.announced, crackles(seed, night.evening));
            }
        }

        void passEveningOf(Night night, int role, boolean crackling) {
            passEvening(night, night.quiet[role] > 0 ? NONE : role, crackling);
        }

        void passEvening(Night night, int role, boolean crackling) {
            boolean rung = false;
            if (hasRole(role) && !crackling) {
                rung = isRungHearing(night, role, saidBy(night, role));
                night.heard[role]++;
            }
            for (int r = 0; r < roles; r++) {
                night.quiet[r] = Math.max(0, night.quiet[r] - 1);
            }
            if (rung) {
                night.quiet[role] = quiet;
                night.rung++;
            }
            night.announced = NONE;
            night.evening++;
        }

        /**
         * LISTENERS hear a ROLE: whether it is rung up. No LAW looks at another LISTENER, so each
         * can move at once, all LAWS of theirs being told from what lookAt() found.
         */
        private boolean isRungHearing(Night night, int role, int said) {
            boolean rung = false;
            for (int l = 0; l < listeners; l++) {
                if (night.isOn(l)) {
                    lookAt(night, l, role, said);
                    rung = rung || isReally(l, role) && laws.tell(RINGS) > 0;
                    night.belief[l] = within(night.belief[l] + laws.tell(MOVES), 0, MOST_BELIEF);
                    boolean isNews = (said & ~night.known[l]) != 0;
                    night.known[l] |= isNews && laws.tell(TRUSTS) > 0 ? said : 0;
                }
            }
            return rung;
        }
    }

    /** The four LAWS, each a row of Es in postfix order: telling them needs no recursion. */
    private static final class Laws {
        private static final int MOST_MOVED = 99;
        private static final int MOST_IFS = 4;
        private static final int PARTS = 3 * MOST_IFS + 1;
        private static final int FIRST_VAR = 10000;
        private static final int STACK = 24;

        private final int[] code = new int[MOST_TOKENS];
        private int size = 0;
        private final int[] starts = new int[LAWS];
        private final int[] ends = new int[LAWS * PARTS];
        private final int[] parts = new int[LAWS];
        private final int[] vars = new int[VARS];
        private final int[] stack = new int[STACK];
        private boolean byZero = false;

        void clear() {
            size = 0;
            Arrays.fill(parts, 0);
        }

        void open(int law) {
            starts[law] = size;
            parts[law] = 0;
        }

        /** An INT is itself, a VAR stands above all INTs, a sign is its byte below 0. */
        void put(int what) {
            if (size < MOST_TOKENS) {
                code[size] = what;
                size++;
            }
        }

        void endPart(int law) {
            if (parts[law] < PARTS) {
                ends[law * PARTS + parts[law]] = size;
                parts[law]++;
            }
        }

        void forgetVars() {
            Arrays.fill(vars, 0);
        }

        int tell(int law) {
            int last = parts[law] - 1;
            if (last < 0) {
                return law == SAYS || law == TRUSTS ? 1 : 0;
            }
            byZero = false;
            int chosen = last;
            for (int i = 0; i + 2 < last && chosen == last; i += 3) {
                if (valueOf(law, i) < valueOf(law, i + 1)) {
                    chosen = i + 2;
                }
            }
            int value = byZero ? 0 : valueOf(law, chosen);
            return byZero ? 0 : law == MOVES ? within(value, -MOST_MOVED, MOST_MOVED) : value;
        }

        private int valueOf(int law, int part) {
            int at = law * PARTS + part;
            int top = 0;
            for (int i = part == 0 ? starts[law] : ends[at - 1]; i < ends[at]; i++) {
                int what = code[i];
                if (what < 0 && top >= 2) {
                    top--;
                    stack[top - 1] = joined(-what, stack[top - 1], stack[top]);
                } else if (what >= 0 && top < STACK) {
                    stack[top] = what < FIRST_VAR ? what : vars[what - FIRST_VAR];
                    top++;
                }
            }
            return stack[0];
        }

        private int joined(int sign, int left, int right) {
            switch (sign) {
                case '+': return left + right;
                case '-': return left - right;
                case '*': return left * right;
                default:
                    byZero = byZero || right == 0;
                    return right == 0 ? 0 : left / right;
            }
        }
    }

    /** The TOKENS of a tape, one after the other. */
    private static final class Tokens {
        private static final String WORDS = "role listener really says trusts moves rings crackle quiet seed if then else fame times fact evening belief known parts which same ";
        private static final int FIRST_LAW = 3;
        private static final int IF = 10;
        private static final int THEN = 11;
        private static final int ELSE = 12;
        private static final int FIRST_VAR = 13;
        private static final int NAME = FIRST_VAR + VARS;
        private static final int INT = NAME + 1;
        private static final int NO_TOKEN = -1;
        private static final String SIGNS = ";=+-*/<()";
        private static final int MOST_LETTERS = 8;
        private static final int MOST_DIGITS = 4;

        private final long[] words = wordCodes();
        private int at = 0;
        private int place = 0;
        private int sort = NO_TOKEN;
        private int value = 0;
        private long name = 0;

        private static long[] wordCodes() {
            long[] codes = new long[NAME];
            long code = 0;
            int size = 0;
            for (int i = 0; i < WORDS.length() && size < NAME; i++) {
                char c = WORDS.charAt(i);
                if (c == ' ') {
                    codes[size] = code;
                    size++;
                    code = 0;
                } else {
                    code = withLetter(code, c);
                }
            }
            return codes;
        }

        private static long withLetter(long code, int letter) {
            return code * 32 + (letter - 'a' + 1);
        }

        void rewind() {
            at = 0;
        }

        /** A sign's sort is its byte; all other sorts lie below those. */
        boolean next(byte[] tape, int length) {
            while (at < length && isBlank(tape[at])) {
                at++;
            }
            place = at;
            if (at >= length) {
                return false;
            }
            if (isLetter(tape[at])) {
                takeLetters(tape, length);
            } else if (isDigit(tape[at])) {
                takeDigits(tape, length);
            } else {
                int c = tape[at] & 255;
                sort = SIGNS.indexOf((char) c) >= 0 ? c : NO_TOKEN;
                at++;
            }
            return true;
        }

        private void takeLetters(byte[] tape, int length) {
            name = 0;
            for (; at < length && isLetter(tape[at]); at++) {
                name = withLetter(name, tape[at]);
            }
            sort = at - place > MOST_LETTERS ? NO_TOKEN : sortOfName();
        }

        private int sortOfName() {
            for (int i = 0; i < NAME; i++) {
                if (words[i] == name) {
                    return i;
                }
            }
            return NAME;
        }

        private void takeDigits(byte[] tape, int length) {
            value = 0;
            for (; at < length && isDigit(tape[at]); at++) {
                value = value * 10 + (tape[at] - '0');
            }
            sort = at - place > MOST_DIGITS ? NO_TOKEN : INT;
        }

        private static boolean isBlank(int c) {
            return c == 9 || c == 10 || c == 13 || c == 32;
        }

        private static boolean isLetter(int c) {
            return c >= 'a' && c <= 'z';
        }

        private static boolean isDigit(int c) {
            return c >= '0' && c <= '9';
        }
    }

    /** Takes the TOKENS of a LAW, behind its word, and puts its Es into postfix order. */
    private static final class LawReader {
        private static final int LESS = 0;
        private static final int THAN = 1;
        private static final int THEN = 2;
        private static final int LAST = 3;
        private static final int MOST_OPENED = 6;
        private static final int MOST_PENDING = 24;

        private int law = 0;
        private int part = LAST;
        private int ifs = 0;
        private int opened = 0;
        private boolean begun = false;
        private boolean wantsUnit = false;
        private boolean over = false;
        private boolean ifMayCome = false;
        private final int[] pending = new int[MOST_PENDING];
        private int pendings = 0;

        void open(int which) {
            law = which;
            part = LAST;
            ifs = 0;
            opened = 0;
            begun = false;
            over = false;
            pendings = 0;
        }

        int take(Tokens tokens, Laws laws) {
            if (!begun) {
                return begin(tokens.sort, laws);
            }
            return wantsUnit ? takeUnit(tokens, laws) : takeBehindUnit(tokens.sort, laws);
        }

        private int begin(int sort, Laws laws) {
            if (sort != '=') {
                return Reader.SYNTAX;
            }
            laws.open(law);
            begun = true;
            wantsUnit = true;
            ifMayCome = true;
            return 0;
        }

        private int takeUnit(Tokens tokens, Laws laws) {
            int sort = tokens.sort;
            boolean ifNow = ifMayCome && sort == Tokens.IF;
            ifMayCome = false;
            if (ifNow) {
                ifs++;
                part = LESS;
                return ifs > Laws.MOST_IFS ? Reader.ROOM : 0;
            }
            if (sort == '(') {
                opened++;
                hang('(');
                return opened > MOST_OPENED ? Reader.ROOM : 0;
            }
            wantsUnit = false;
            if (sort == Tokens.INT) {
                laws.put(tokens.value);
                return 0;
            }
            if (sort >= Tokens.FIRST_VAR && sort < Tokens.FIRST_VAR + VARS) {
                laws.put(Laws.FIRST_VAR + (sort - Tokens.FIRST_VAR));
                return 0;
            }
            return Reader.SYNTAX;
        }

        private int takeBehindUnit(int sort, Laws laws) {
            int tightness = tightnessOf(sort);
            if (tightness > 0) {
                putHanging(tightness, laws);
                hang(sort);
                wantsUnit = true;
                return 0;
            }
            if (opened > 0) {
                return takeClosing(sort, laws);
            }
            if (sort != endOfPart()) {
                return Reader.SYNTAX;
            }
            endPart(laws);
            return 0;
        }

        private int takeClosing(int sort, Laws laws) {
            if (sort != ')') {
                return Reader.SYNTAX;
            }
            putHanging(1, laws);
            pendings = Math.max(0, pendings - 1);
            opened--;
            return 0;
        }

        private int endOfPart() {
            switch (part) {
                case LESS: return '<';
                case THAN: return Tokens.THEN;
                case THEN: return Tokens.ELSE;
                default: return ';';
            }
        }

        private void endPart(Laws laws) {
            putHanging(1, laws);
            laws.endPart(law);
            over = part == LAST;
            ifMayCome = part == THEN;
            part = Math.min(LAST, part + 1);
            wantsUnit = true;
        }

        private static int tightnessOf(int sort) {
            switch (sort) {
                case '+':
                case '-': return 1;
                case '*':
                case '/': return 2;
                default: return 0;
            }
        }

        private void hang(int sign) {
            if (pendings < MOST_PENDING) {
                pending[pendings] = sign;
                pendings++;
            }
        }

        /** Signs that bind no looser come first; the ( that is open has no tightness, and stops it. */
        private void putHanging(int tightness, Laws laws) {
            while (pendings > 0 && tightnessOf(pending[pendings - 1]) >= tightness) {
                pendings--;
                laws.put(-pending[pendings]);
            }
        }
    }

    /** Reads a tape into a Text, and finds its FAULT. */
    private static final class Reader {
        private static final int SYNTAX = 1;
        private static final int ROOM = 2;
        private static final int TWICE = 3;
        private static final int NO_SUCH_NAME = 4;
        private static final int WRONG = 5;

        private static final int ROLE = 0;
        private static final int LISTENER = 1;
        private static final int REALLY = 2;
        private static final int CRACKLE = 7;
        private static final int QUIET = 8;
        private static final int SEED = 9;

        private final Tokens tokens = new Tokens();
        private final LawReader lawReader = new LawReader();
        private int tell = NONE;
        private int step = 0;
        private int reallyListener = NONE;
        private int flaw = 0;
        private int flawPlace = NONE;
        private int faultPlace = NONE;

        /** The number of the FAULT, or 0; its place stays in faultPlace. */
        int readInto(Text text, byte[] tape, int length) {
            text.clear();
            tokens.rewind();
            tell = NONE;
            flaw = 0;
            flawPlace = NONE;
            for (int n = 1; n <= length && tokens.next(tape, length); n++) {
                int fault = take(text);
                if (fault == 0 && n > MOST_TOKENS) {
                    fault = ROOM;
                }
                if (fault != 0) {
                    faultPlace = tokens.place;
                    return fault;
                }
            }
            boolean cutShort = tell != NONE;
            faultPlace = cutShort ? length : flawPlace;
            return cutShort ? SYNTAX : flaw;
        }

        private int take(Text text) {
            if (tell == NONE) {
                return openTell(text);
            }
            if (isLaw(tell)) {
                int fault = lawReader.take(tokens, text.laws);
                if (lawReader.over) {
                    tell = NONE;
                }
                return fault;
            }
            return takeInForm(text);
        }

        private static boolean isLaw(int word) {
            return word >= Tokens.FIRST_LAW && word < Tokens.FIRST_LAW + LAWS;
        }

        private int openTell(Text text) {
            int word = tokens.sort;
            if (word < ROLE || word > SEED) {
                return SYNTAX;
            }
            tell = word;
            step = 0;
            if (isLaw(word)) {
                lawReader.open(word - Tokens.FIRST_LAW);
            }
            return hasRoomFor(text, word) ? 0 : ROOM;
        }

        private static boolean hasRoomFor(Text text, int word) {
            switch (word) {
                case ROLE: return text.roles < MOST;
                case LISTENER: return text.listeners < MOST;
                case REALLY: return text.reallies < MOST;
                default: return true;
            }
        }

        private static String formOf(int word) {
            switch (word) {
                case ROLE: return "nii;";
                case LISTENER: return "niii;";
                case REALLY: return "nn;";
                default: return "i;";
            }
        }

        private int takeInForm(Text text) {
            String form = formOf(tell);
            char due = step < form.length() ? form.charAt(step) : ';';
            int sort = due == 'n' ? Tokens.NAME : due == 'i' ? Tokens.INT : ';';
            if (tokens.sort != sort) {
                return SYNTAX;
            }
            if (due == 'n') {
                takeName(text);
            } else if (due == 'i') {
                takeNumber(text, tokens.value);
            } else {
                tell = NONE;
            }
            step++;
            return 0;
        }

        private void takeName(Text text) {
            if (tell == REALLY) {
                takeReally(text);
                return;
            }
            if (text.roleNamed(tokens.name) != NONE || text.listenerNamed(tokens.name) != NONE) {
                note(TWICE);
            }
            if (tell == ROLE) {
                text.addRole(tokens.name);
            } else {
                text.addListener(tokens.name);
            }
        }

        private void takeReally(Text text) {
            if (step == 0) {
                reallyListener = text.listenerNamed(tokens.name);
                if (reallyListener == NONE) {
                    note(NO_SUCH_NAME);
                }
                return;
            }
            int role = text.roleNamed(tokens.name);
            if (role == NONE) {
                note(NO_SUCH_NAME);
            } else if (reallyListener != NONE && text.isReally(reallyListener, role)) {
                note(TWICE);
            }
            text.addReally(reallyListener, role);
        }

        private void takeNumber(Text text, int value) {
            if (value < leastNumber() || value > mostNumber()) {
                note(WRONG);
            }
            switch (tell) {
                case ROLE:
                    text.setRole(step, value);
                    break;
                case LISTENER:
                    text.setListener(step, value);
                    break;
                case CRACKLE:
                    text.crackle = value;
                    break;
                case QUIET:
                    text.quiet = value;
                    break;
                default:
                    text.seed = value;
            }
        }

        private int leastNumber() {
            return tell == QUIET ? 1 : 0;
        }

        private int mostNumber() {
            switch (tell) {
                case ROLE: return step == 1 ? 255 : 9;
                case LISTENER: return step < 3 ? 255 : 99;
                case CRACKLE: return 100;
                case QUIET: return 99;
                default: return 9999;
            }
        }

        /** TOKENS come by their place, so the first one noted is the one that counts. */
        private void note(int fault) {
            if (flaw == 0) {
                flaw = fault;
                flawPlace = tokens.place;
            }
        }
    }

    /** Finds the shortest rows of evenings. */
    private static final class Planner {
        private final Night[] nights = new Night[MOST_PLANNED + 1];
        private final int[] roles = new int[MOST_PLANNED];

        Planner() {
            for (int i = 0; i <= MOST_PLANNED; i++) {
                nights[i] = new Night();
            }
        }

        /** How many evenings, or NOTHING_FITS; their ROLES stay in the row. */
        int fewest(Text text, Night now, int listener) {
            int wanted = listener == NONE ? (1 << text.listeners) - 1 : 1 << listener;
            if ((text.hopelessIn(now) & wanted) != 0) {
                return NOTHING_FITS;
            }
            nights[0].become(now);
            for (int length = 0; length <= MOST_PLANNED; length++) {
                if (reaches(text, wanted, nights, roles, 0, length)) {
                    return length;
                }
            }
            return NOTHING_FITS;
        }

        /** The last ROLE of a row must KNOW all that is lacked still: most rows need not be tried out. */
        private static boolean reaches(Text text, int wanted, Night[] nights, int[] roles, int depth, int length) {
            int lacked = text.lackedByAny(nights[depth], wanted);
            if (depth >= length || depth >= MOST_PLANNED) {
                return lacked == 0;
            }
            boolean isLast = depth + 1 == length;
            for (int r = 0; r < text.roles; r++) {
                if (nights[depth].quiet[r] == 0 && (!isLast || (lacked & ~text.knows[r]) == 0)) {
                    roles[depth] = r;
                    nights[depth + 1].become(nights[depth]);
                    text.passEvening(nights[depth + 1], r, false);
                    if (reaches(text, wanted, nights, roles, depth + 1, length)) {
                        return true;
                    }
                }
            }
            return false;
        }
    }

    /** What can be undone, and what SLOTS hold. */
    private static final class Memory {
        private final Night[] past = new Night[MOST_UNDONE];
        private int next = 0;
        private int size = 0;
        private final Night[] slots = new Night[SLOTS];
        private int held = 0;

        Memory() {
            for (int i = 0; i < MOST_UNDONE; i++) {
                past[i] = new Night();
            }
            for (int i = 0; i < SLOTS; i++) {
                slots[i] = new Night();
            }
        }

        void forgetAll() {
            size = 0;
            held = 0;
        }

        /** The row goes round: the oldest one gives way. */
        void remember(Night night) {
            past[next].become(night);
            next = (next + 1) % MOST_UNDONE;
            size = Math.min(MOST_UNDONE, size + 1);
        }

        boolean takeBack(Night night) {
            if (size == 0) {
                return false;
            }
            next = (next + MOST_UNDONE - 1) % MOST_UNDONE;
            size--;
            night.become(past[next]);
            return true;
        }

        boolean keep(int slot, Night night) {
            if (slot < 0 || slot >= SLOTS) {
                return false;
            }
            slots[slot].become(night);
            held |= 1 << slot;
            return true;
        }

        boolean giveBack(int slot, Night night) {
            if (slot < 0 || slot >= SLOTS || !holds(held, slot)) {
                return false;
            }
            night.become(slots[slot]);
            size = 0;
            return true;
        }
    }

    /** What was TOLD of a ROLE unknown. */
    private static final class Told {
        private final boolean[] ofDone = new boolean[MOST_TOLD];
        private final int[] which = new int[MOST_TOLD];
        private final boolean[] so = new boolean[MOST_TOLD];
        private int size = 0;

        int add(boolean done, int of, boolean is) {
            if (size >= MOST_TOLD) {
                return NONE;
            }
            ofDone[size] = done;
            which[size] = of;
            so[size] = is;
            size++;
            return size - 1;
        }

        boolean isSo(int k, int said, int done) {
            for (int i = 0; i < k && i < size; i++) {
                if (holds(ofDone[i] ? done : said, which[i]) != so[i]) {
                    return false;
                }
            }
            return true;
        }
    }
}
