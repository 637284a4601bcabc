/** Boundary cases of promises 6 to 14 and 43 to 45, and of the terms that they use: LAWS, EVENINGS, by hand. */
public final class BoundsOfEveningsTest {
    private static final Dues D = new Dues();
    private static final int MIN = Integer.MIN_VALUE;
    private static final int MAX = Integer.MAX_VALUE;
    /** In 32 bits it is the least int. */
    private static final String LEAST = "256 * 256 * 256 * 128";
    private static final String CAST = "role a 3 2; role b 12 7; listener l 1 7 40; listener m 8 12 90; really m b; rings = 1; moves = 10; quiet 2;";
    private static final String FULL = "role a 255 9;role b 0 0;role c 255 9;role d 255 9;role e 255 9;role f 255 9;"
            + "listener u 255 255 99;listener v 0 0 0;listener w 255 255 99;listener x 255 255 99;listener y 255 255 99;listener z 255 255 99;";

    public static void main(String[] args) {
        role();
        roleValues();
        listener();
        listenerValues();
        tells();
        lawsCompare();
        lawsWrap();
        lawsRound();
        lawsByZero();
        lawsLookNoFurther();
        lawsOfOtherVars();
        lawsOfVarsAtTheirEnds();
        lawsBehindFourIfs();
        lawsNotTold();
        moreThanZero();
        movesHeld();
        announce();
        turn();
        inform();
        talk();
        evenings();
        eveningOfNobody();
        eveningCrackles();
        lotsFarOn();
        beliefHeld();
        quietOfOne();
        quietOfMost();
        quietAgain();
        deaf();
        undoNone();
        undoForty();
        undoEachKind();
        hold();
        holdAgain();
        restore();
        restoreStays();
        counts();
        countsEmptyAndFull();
        D.endOf(6, 7, 8, 9, 10, 11, 12, 13, 14, 43, 44, 45);
    }

    /** Evening 1: b is QUIET, a is ANNOUNCED, l is OFF; three things and a slot are held, one is TOLD. */
    private static VoiceTonight underway() {
        VoiceTonight x = Dues.voice(CAST);
        x.announce(1);
        x.evenings(1);
        x.turn(0, false);
        x.announce(0);
        x.tellFact(1, true);
        x.hold(1);
        x.feed(1, 2, 3, 4, 5);
        return x;
    }

    // ---- promises 6 to 8

    private static void role() {
        D.sentence(6, "NONE for others.");
        VoiceTonight x = underway();
        for (int role : new int[] {-1, 2, 3, 5, 6, 32, MAX, MIN, MIN + 1}) {
            for (int what = -1; what <= 6; what++) {
                D.due("role(" + role + ", " + what + ")", x.role(role, what), -1);
            }
        }
        for (int what : new int[] {-1, 6, 7, 32, MAX, MIN}) {
            D.due("role(0, " + what + ")", x.role(0, what), -1);
            D.due("role(1, " + what + ")", x.role(1, what), -1);
        }
        x = Dues.voice(FULL);
        D.due("role(5, 0)", x.role(5, 0), 255);
        D.due("role(6, 0)", x.role(6, 0), -1);
    }

    private static void roleValues() {
        D.sentence(6, "KNOWS as bits 0 .. 255, FAME 0 .. 9; none, and all of them");
        VoiceTonight x = Dues.voice(FULL + "really u a;really v a;really w a;really x a;really y a;really z a;");
        int[] most = {255, 9, 0, 0, 63, 255};
        for (int what = 0; what < 6; what++) {
            D.due("role(0, " + what + ")", x.role(0, what), most[what]);
            D.due("role(1, " + what + ")", x.role(1, what), 0);
        }
        x = Dues.voice(FULL + "says = 0;");
        D.due("role(0, 5), nothing SAID", x.role(0, 5), 0);
        x = Dues.voice(FULL + "says = fact;");
        D.due("role(0, 5), all but the first", x.role(0, 5), 254);
        x = Dues.voice(FULL + "says = 7 - fact;");
        D.due("role(0, 5), all but the last", x.role(0, 5), 127);
    }

    private static void listener() {
        D.sentence(7, "NONE for others.");
        VoiceTonight x = underway();
        for (int listener : new int[] {-1, 2, 3, 5, 6, 32, MAX, MIN, MIN + 1}) {
            for (int what = -1; what <= 6; what++) {
                D.due("listener(" + listener + ", " + what + ")", x.listener(listener, what), -1);
            }
        }
        for (int what : new int[] {-1, 6, 7, 32, MAX, MIN}) {
            D.due("listener(0, " + what + ")", x.listener(0, what), -1);
            D.due("listener(1, " + what + ")", x.listener(1, what), -1);
        }
        x = Dues.voice(FULL);
        D.due("listener(5, 2)", x.listener(5, 2), 99);
        D.due("listener(6, 2)", x.listener(6, 2), -1);
    }

    private static void listenerValues() {
        D.sentence(7, "FACTS as bits 0 .. 255 each, BELIEF 0 .. 99; none, and all of them");
        VoiceTonight x = Dues.voice(FULL + "really u a;really u b;really u c;really u d;really u e;really u f;");
        int[] most = {255, 255, 99, 1, 1, 63};
        int[] least = {0, 0, 0, 1, 1, 0};
        for (int what = 0; what < 6; what++) {
            D.due("listener(0, " + what + ")", x.listener(0, what), most[what]);
            D.due("listener(1, " + what + ")", x.listener(1, what), least[what]);
        }
        D.sentence(7, "A LISTENER has DONE it who knows all that is NEEDED.");
        x = Dues.voice("listener l 0 0 1; listener m 255 0 1; listener n 254 255 1; listener o 255 255 1; listener p 0 128 1; listener q 127 127 1;");
        int[] done = {1, 1, 0, 1, 0, 1};
        for (int l = 0; l < 6; l++) {
            D.due("listener(" + l + ", 4)", x.listener(l, 4), done[l]);
        }
        x.inform(2, 0);
        D.due("listener(2, 4), the last FACT told", x.listener(2, 4), 1);
    }

    private static void tells() {
        D.sentence(8, "-100: no such ones.");
        VoiceTonight x = underway();
        for (int no : new int[] {-1, 2, 5, 6, 32, MAX, MIN}) {
            for (int what = 0; what < 3; what++) {
                D.due("tells(" + no + ", 0, " + what + ")", x.tells(no, 0, what), -100);
                D.due("tells(0, " + no + ", " + what + ")", x.tells(0, no, what), -100);
                D.due("tells(no, no, " + what + ")", x.tells(no, no, what), -100);
            }
        }
        for (int what : new int[] {-1, 3, 4, MAX, MIN}) {
            D.due("tells(0, 0, " + what + ")", x.tells(0, 0, what), -100);
        }
        D.due("tells(0, 0, 0)", x.tells(0, 0, 0), 1);
        D.due("tells(0, 1, 2), REALLY or not", x.tells(0, 1, 2), 1);
        x = Dues.voice("role a 1 1; listener l 1 1 1; moves = 0 - 100; trusts = 0 - 100; rings = 0 - 100;");
        D.due("tells(0, 0, 0)", x.tells(0, 0, 0), 0);
        D.due("tells(0, 0, 1): -100 is held", x.tells(0, 0, 1), -99);
        D.due("tells(0, 0, 2)", x.tells(0, 0, 2), 0);
    }

    // ---- LAWS

    /** What a LAW of MOVES tells, held to -99 .. 99. */
    private static void moves(String law, int due) {
        VoiceTonight x = Dues.voice("role r 1 3; listener l 1 1 40; moves = " + law + ";");
        D.due("moves = " + law, x.tells(0, 0, 1), due);
    }

    private static void lawsCompare() {
        D.sentence(8, "the E of the first if that holds (one less than the other), else the last one");
        moves("if 0 < 0 then 1 else 2", 2);
        moves("if 0 < 1 then 1 else 2", 1);
        moves("if 1 < 0 then 1 else 2", 2);
        moves("if 0 - 1 < 0 then 1 else 2", 1);
        moves("if 0 < 0 - 1 then 1 else 2", 2);
        moves("if " + LEAST + " < " + LEAST + " - 1 then 1 else 2", 1);
        moves("if " + LEAST + " - 1 < " + LEAST + " then 1 else 2", 2);
        moves("if " + LEAST + " < 1 then 1 else 2", 1);
        moves("if 1 < 1 then 1 else if 1 < 1 then 2 else if 1 < 1 then 3 else if 1 < 1 then 4 else 5", 5);
        moves("if 1 < 1 then 1 else if 1 < 1 then 2 else if 1 < 1 then 3 else if 0 < 1 then 4 else 5", 4);
        moves("if 0 < 1 then 1 else if 0 < 1 then 2 else if 0 < 1 then 3 else if 0 < 1 then 4 else 5", 1);
        moves("if 1 < 1 then 1 else if 0 < 1 then 2 else if 0 < 1 then 3 else if 0 < 1 then 4 else 5", 2);
    }

    private static void lawsWrap() {
        D.sentence(8, "ints of 32 bits that wrap");
        moves(LEAST, -99);
        moves(LEAST + " - 1", 99);
        moves(LEAST + " - 1 + 1", -99);
        moves("0 - " + LEAST, -99);
        moves(LEAST + " + " + LEAST, 0);
        moves(LEAST + " * 2 + 7", 7);
        moves("(" + LEAST + " - 1) * 2", -2);
        moves(LEAST + " / (0 - 1)", -99);
        moves(LEAST + " / (0 - 1) - 1", 99);
        moves("256 * 256 * 256 * 256 - 3", -3);
        // 9999 * 9999 * 9999 * 9999 is 9996000599960001, of which the last 32 bits are 1089432001
        moves("9999 * 9999 * 9999 * 9999 / 9999 / 9999", 10);
        moves("if 9999 * 9999 * 9999 < 0 then 1 else 2", 1);
    }

    private static void lawsRound() {
        D.sentence(8, "/ rounded towards 0");
        moves("7 / 2", 3);
        moves("(0 - 7) / 2", -3);
        moves("7 / (0 - 2)", -3);
        moves("(0 - 7) / (0 - 2)", 3);
        moves("1 / 2", 0);
        moves("(0 - 1) / 2", 0);
        moves("1 / (0 - 2)", 0);
        moves("0 / 5", 0);
        moves("(0 - 9999) / 101", -99);
        moves("(0 - 8) / 8", -1);
    }

    private static void lawsByZero() {
        D.sentence(8, "a LAW in which something that is looked at is divided by 0 is 0");
        moves("1 / 0", 0);
        moves("0 / 0", 0);
        moves("5 + 1 / 0", 0);
        moves("5 - 0 * (1 / 0)", 0);
        moves("5 + 1 / (3 - 3)", 0);
        moves("5 + 1 / (1 / 2)", 0);
        moves("5 + 1 / 0 / 0", 0);
        moves("5 + 1 / fact", 0);
        moves("if 1 / 0 < 1 then 5 else 6", 0);
        moves("if 0 < 1 / 0 then 5 else 6", 0);
        moves("if 0 < 1 then 5 / 0 else 6", 0);
        moves("if 1 < 0 then 5 else 6 / 0", 0);
        moves("if 1 < 0 then 5 else if 1 / 0 < 0 then 6 else 7", 0);
        moves("if 1 < 0 then 5 else if 0 < 1 then 6 / 0 else 7", 0);
        moves("if 1 < 0 then 1 else if 1 < 0 then 2 else if 1 < 0 then 3 else if 0 < 5 / 0 then 4 else 5", 0);
        VoiceTonight x = Dues.voice("role r 7 1; listener l 0 1 1; really l r; says = 1 + 1 / (1 - fact); trusts = 1 + 1 / times; rings = 1 + 1 / times;");
        D.due("SAYS is 0 for one FACT", x.role(0, 5), 1);
        D.due("TRUSTS is 0", x.tells(0, 0, 0), 0);
        D.due("RINGS is 0", x.tells(0, 0, 2), 0);
        D.due("callers(0)", x.callers(0), 0);
        x.announce(0);
        x.evenings(1);
        D.due("known, HEARD by 0", x.listener(0, 0), 0);
        D.due("TRUSTS by 1", x.tells(0, 0, 0), 1);
        D.due("RINGS by 1", x.tells(0, 0, 2), 1);
    }

    private static void lawsLookNoFurther() {
        D.sentence(8, "something that is looked at (what is not looked at may be divided by 0)");
        moves("if 0 < 1 then 5 else 6 / 0", 5);
        moves("if 1 < 0 then 5 / 0 else 6", 6);
        moves("if 0 < 1 then 5 else if 1 / 0 < 1 then 6 else 7", 5);
        moves("if 0 < 1 then 5 else if 0 < 1 / 0 then 6 / 0 else 7 / 0", 5);
        moves("if 1 < 0 then 5 / 0 else if 1 < 0 then 6 / 0 else if 1 < 0 then 7 / 0 else if 1 < 0 then 8 / 0 else 9", 9);
        moves("if 1 < 0 then 5 / 0 else if 0 < 1 then 6 else if 0 < 1 / 0 then 7 else 8 / 0", 6);
    }

    private static void lawsOfOtherVars() {
        D.sentence(8, "a VAR not told for a LAW is 0 in it; evening for all");
        String cast = "role r 255 9; listener l 255 255 99; listener m 255 255 99; really m r; ";
        for (String var : new String[] {"belief", "known", "parts", "same"}) {
            VoiceTonight x = Dues.voice(cast + "says = 1 - " + var + ";");
            D.due("tells ahead of it", x.tells(1, 0, 0), 1);
            D.due("SAYS by " + var, x.role(0, 5), 255);
        }
        VoiceTonight x = Dues.voice(cast + "trusts = 1 - fact; moves = fact; rings = fact;");
        D.due("TRUSTS by fact", x.tells(1, 0, 0), 1);
        D.due("MOVES by fact", x.tells(1, 0, 1), 0);
        D.due("RINGS by fact", x.tells(1, 0, 2), 0);
        x = Dues.voice(cast + "says = evening; trusts = evening; moves = evening; rings = evening;");
        D.due("SAYS in evening 0", x.role(0, 5), 0);
        D.due("TRUSTS in evening 0", x.tells(1, 0, 0), 0);
        D.due("RINGS in evening 0", x.tells(1, 0, 2), 0);
        x.evenings(1);
        D.due("SAYS in evening 1", x.role(0, 5), 255);
        D.due("TRUSTS in evening 1", x.tells(1, 0, 0), 1);
        D.due("MOVES in evening 1", x.tells(1, 0, 1), 1);
        D.due("RINGS in evening 1", x.tells(1, 0, 2), 1);
    }

    /** What MOVES by a VAR tells, of the first LISTENER and ROLE and of the last ones. */
    private static void movesBy(String var, int first, int last) {
        VoiceTonight x = Dues.voice(FULL.replace("role a 255 9", "role a 0 0").replace("listener u 255 255 99", "listener u 0 255 0")
                + "really z f; moves = " + var + ";");
        D.due("MOVES by " + var + " of the first ones", x.tells(0, 0, 1), first);
        D.due("MOVES by " + var + " of the last ones", x.tells(5, 5, 1), last);
    }

    private static void lawsOfVarsAtTheirEnds() {
        D.sentence(8, "fame, times of the ROLE; belief; known; parts; which; same (at their least and their most)");
        movesBy("fame", 0, 9);
        movesBy("times", 0, 0);
        movesBy("fact", 0, 0);
        movesBy("evening", 0, 0);
        movesBy("belief", 0, 99);
        movesBy("known", 0, 8);
        movesBy("parts", 0, 8);
        movesBy("which", 0, 5);
        movesBy("same", 0, 1);
        VoiceTonight x = Dues.voice(FULL + "says = 50 * (9 - fame) + 10 * which + times + fact - 56;");
        D.due("SAYS of f by fact 7", x.role(5, 5), 128);
        D.due("SAYS of e by none", x.role(4, 5), 0);
        D.due("SAYS of b, which KNOWS none", x.role(1, 5), 0);
        x.announce(5);
        x.evenings(1);
        D.due("SAYS of f by fact 6, 7", x.role(5, 5), 192);
    }

    private static void lawsBehindFourIfs() {
        D.sentence(8, "the E of the first if that holds, else the last one (of four ifs, in each LAW)");
        String never = "if 1 < 1 then 9 else ";
        String longLaw = never.repeat(3) + "if 1 < 1 then 9 else ";
        VoiceTonight x = Dues.voice("role r 3 1; listener l 0 1 1; says = " + longLaw + "fact; trusts = " + longLaw + "1; moves = " + longLaw + "8;");
        D.due("SAYS", x.role(0, 5), 2);
        D.due("TRUSTS", x.tells(0, 0, 0), 1);
        D.due("MOVES", x.tells(0, 0, 1), 8);
        x = Dues.voice("role r 3 1; listener l 0 1 1; really l r; says = 1; trusts = " + longLaw + "0; moves = " + longLaw + "0 - 8; rings = " + longLaw + "1;");
        D.due("TRUSTS", x.tells(0, 0, 0), 0);
        D.due("MOVES", x.tells(0, 0, 1), -8);
        D.due("RINGS", x.tells(0, 0, 2), 1);
        D.due("callers(0)", x.callers(0), 1);
        Dues.put(x, "role r 3 1; listener l 0 1 1; rings = 1; moves = if 1 < 1 then 9 else 7; trusts = 1;");
        D.due("read() of shorter LAWS", x.read(), 0);
        D.due("TRUSTS", x.tells(0, 0, 0), 1);
        D.due("MOVES", x.tells(0, 0, 1), 7);
        D.due("RINGS", x.tells(0, 0, 2), 1);
    }

    private static void lawsNotTold() {
        D.sentence(8, "LAWS: SAYS (1), TRUSTS (1), MOVES (0), RINGS (0), if not told; the last one.");
        VoiceTonight x = Dues.voice("role r 255 9; listener l 0 255 50; really l r;");
        D.due("SAYS", x.role(0, 5), 255);
        D.due("TRUSTS", x.tells(0, 0, 0), 1);
        D.due("MOVES", x.tells(0, 0, 1), 0);
        D.due("RINGS", x.tells(0, 0, 2), 0);
        x = Dues.voice("role r 255 9; listener l 0 255 50; says = 0; says = fact; trusts = 1; trusts = 0; moves = 1; moves = 2; moves = 3;"
                + "rings = if 1 < 2 then 0 else 1; rings = 1;");
        D.due("the last SAYS", x.role(0, 5), 254);
        D.due("the last TRUSTS", x.tells(0, 0, 0), 0);
        D.due("the last MOVES", x.tells(0, 0, 1), 3);
        D.due("the last RINGS", x.tells(0, 0, 2), 1);
    }

    private static void moreThanZero() {
        D.sentence(8, "SAID, TRUST, rings up: if it tells more than 0");
        String[] told = {"0", "1", "0 - 1", LEAST, LEAST + " - 1", "9999"};
        int[] due = {0, 1, 0, 0, 1, 1};
        for (int i = 0; i < told.length; i++) {
            VoiceTonight x = Dues.voice("role r 1 1; listener l 0 1 1; really l r; says = " + told[i] + "; trusts = " + told[i] + "; rings = " + told[i] + ";");
            D.due("SAYS " + told[i], x.role(0, 5), due[i]);
            D.due("TRUSTS " + told[i], x.tells(0, 0, 0), due[i]);
            D.due("RINGS " + told[i], x.tells(0, 0, 2), due[i]);
            x.announce(0);
            x.evenings(1);
            D.due("known by " + told[i], x.listener(0, 0), due[i]);
            D.due("QUIET by " + told[i], x.role(0, 3), 3 * due[i]);
        }
    }

    private static void movesHeld() {
        D.sentence(8, "MOVES (likewise), held to -99 .. 99");
        moves("98", 98);
        moves("99", 99);
        moves("100", 99);
        moves("0 - 98", -98);
        moves("0 - 99", -99);
        moves("0 - 100", -99);
        moves("9999", 99);
        moves("0 - 9999", -99);
    }

    // ---- promises 9 to 13

    private static void announce() {
        D.sentence(9, "false, and nothing happens: it is so, QUIET, no such ROLE.");
        VoiceTonight x = underway();
        int[] before = Dues.all(x);
        for (int role : new int[] {0, 1, 2, 5, 6, 32, 33, -1, -2, MAX, MIN}) {
            D.due("announce(" + role + ")", x.announce(role), false);
            D.unchanged("announce(" + role + ")", x, before);
        }
        D.sentence(9, "ANNOUNCED for this evening, in place of another one: true");
        x = Dues.voice(CAST);
        D.due("announce(0)", x.announce(0), true);
        D.due("announce(1)", x.announce(1), true);
        D.due("announce(0) anew", x.announce(0), true);
        D.due("things done", x.count(9), 3);
        x.evenings(1);
        D.due("HEARD is a alone", x.count(15), 2);
        D.due("announce(0) for the next one", x.announce(0), true);
    }

    private static void turn() {
        D.sentence(10, "false, and nothing happens: it is so, no such LISTENER.");
        VoiceTonight x = underway();
        int[] before = Dues.all(x);
        D.due("turn(0, false), OFF", x.turn(0, false), false);
        D.due("turn(1, true), ON", x.turn(1, true), false);
        for (int listener : new int[] {2, 5, 6, 31, 32, 33, -1, MAX, MIN}) {
            D.due("turn(" + listener + ", true)", x.turn(listener, true), false);
            D.due("turn(" + listener + ", false)", x.turn(listener, false), false);
        }
        D.unchanged("turn", x, before);
        D.sentence(10, "Switched ON or OFF: true");
        D.due("listener(1, 3)", x.listener(1, 3), 1);
        D.due("turn(1, false), the last one ON", x.turn(1, false), true);
        D.due("listener(1, 3)", x.listener(1, 3), 0);
        D.due("all OFF", x.count(6), 0);
        D.due("turn(0, true)", x.turn(0, true), true);
        D.due("turn(1, true)", x.turn(1, true), true);
        D.due("all ON", x.count(6), 3);
        x = Dues.voice(FULL);
        for (int l = 5; l >= 0; l--) {
            D.due("turn(" + l + ", false)", x.turn(l, false), true);
            D.due("count(6)", x.count(6), (1 << l) - 1);
        }
    }

    private static void inform() {
        D.sentence(11, "false, and nothing happens: it is known, no such ones.");
        VoiceTonight x = underway();
        int[] before = Dues.all(x);
        D.due("inform(0, 0), known at first", x.inform(0, 0), false);
        D.due("inform(0, 2), heard", x.inform(0, 2), false);
        for (int fact : new int[] {-1, 8, 9, 31, 32, 33, MAX, MIN}) {
            D.due("inform(0, " + fact + ")", x.inform(0, fact), false);
        }
        for (int listener : new int[] {-1, 2, 5, 6, 32, MAX, MIN}) {
            D.due("inform(" + listener + ", 7)", x.inform(listener, 7), false);
        }
        D.due("inform(-1, -1)", x.inform(-1, -1), false);
        D.unchanged("inform", x, before);
        D.sentence(11, "A FACT is told: true (FACTS 0 .. 7)");
        x = Dues.voice(FULL);
        for (int fact = 0; fact < 8; fact++) {
            D.due("inform(1, " + fact + ")", x.inform(1, fact), true);
            D.due("inform(1, " + fact + ") again", x.inform(1, fact), false);
            D.due("listener(1, 0)", x.listener(1, 0), (2 << fact) - 1);
            D.due("inform(0, " + fact + ") of all known", x.inform(0, fact), false);
        }
    }

    private static void talk() {
        D.sentence(12, "NONE, and nothing happens: no such ones, one and the same.");
        VoiceTonight x = underway();
        int[] before = Dues.all(x);
        D.due("talk(0, 0)", x.talk(0, 0), -1);
        D.due("talk(1, 1)", x.talk(1, 1), -1);
        for (int no : new int[] {-1, 2, 5, 6, 32, MAX, MIN}) {
            D.due("talk(0, " + no + ")", x.talk(0, no), -1);
            D.due("talk(" + no + ", 0)", x.talk(no, 0), -1);
            D.due("talk(" + no + ", " + no + ")", x.talk(no, no), -1);
        }
        D.unchanged("talk", x, before);
        D.sentence(12, "They talk: how many FACTS more are known, of both together");
        x = Dues.voice(FULL);
        D.due("talk(2, 3), both knowing all", x.talk(2, 3), 0);
        D.due("a thing done", x.count(9), 1);
        D.due("talk(1, 5): none and all", x.talk(1, 5), 8);
        D.due("listener(1, 0)", x.listener(1, 0), 255);
        D.due("listener(5, 0)", x.listener(5, 0), 255);
        x = Dues.voice("listener l 15 0 0; listener m 240 0 0; listener n 0 0 0; listener o 0 0 0;");
        D.due("talk(1, 0): halves", x.talk(1, 0), 8);
        D.due("talk(2, 3): none and none", x.talk(2, 3), 0);
    }

    private static void evenings() {
        D.sentence(13, "NONE, and nothing happens: no such n.");
        VoiceTonight x = underway();
        int[] before = Dues.all(x);
        for (int n : new int[] {-1, -30, 31, 32, 60, MAX, MIN}) {
            D.due("evenings(" + n + ")", x.evenings(n), -1);
            D.unchanged("evenings(" + n + ")", x, before);
        }
        D.sentence(13, "n EVENINGS (0 .. 30; 0 is no thing done) go by: which it is");
        D.due("evenings(0)", x.evenings(0), 1);
        D.unchanged("evenings(0)", x, before);
        D.due("evenings(1)", x.evenings(1), 2);
        D.due("a thing done", x.count(9), 5);
        D.due("evenings(30)", x.evenings(30), 32);
        D.due("one thing done", x.count(9), 6);
        D.due("evenings(29)", x.evenings(29), 61);
        D.due("evenings(0)", x.evenings(0), 61);
        D.due("no thing done", x.count(9), 7);
        x = new VoiceTonight();
        for (int i = 1; i <= 500; i++) {
            D.due("evenings(30) again and again", x.evenings(30), 30 * i);
        }
    }

    // ---- EVENINGS

    private static void eveningOfNobody() {
        D.sentence(13, "the ROLE that is ANNOUNCED for it (by hand; else nobody: nothing is said)");
        VoiceTonight x = Dues.voice("role a 255 1; listener l 0 255 50; really l a; moves = 9; rings = 1;");
        x.evenings(30);
        D.due("known", x.listener(0, 0), 0);
        D.due("BELIEF", x.listener(0, 2), 50);
        D.due("HEARD", x.count(13), 0);
        D.due("rung up", x.count(14), 0);
        x.announce(0);
        x.evenings(30);
        D.due("known by the first of 30", x.listener(0, 0), 255);
        D.due("BELIEF, moved once", x.listener(0, 2), 59);
        D.due("HEARD once", x.count(13), 1);
        D.due("nobody is announced then", x.count(3), -2);
        D.due("QUIET went by", x.count(4), 0);
    }

    private static void crackleOf(int seed, int crackle, int due) {
        VoiceTonight x = Dues.voice("role a 1 1; listener l 0 1 50; really l a; moves = 9; rings = 1; seed " + seed + "; crackle " + crackle + ";");
        String call = "seed " + seed + ", crackle " + crackle + ": ";
        D.due(call + "count(12)", x.count(12), due);
        x.announce(0);
        x.evenings(1);
        D.due(call + "known", x.listener(0, 0), 1 - due);
        D.due(call + "BELIEF", x.listener(0, 2), 59 - 9 * due);
        D.due(call + "HEARD", x.role(0, 2), 1 - due);
        D.due(call + "QUIET", x.role(0, 3), 3 - 3 * due);
        D.due(call + "evening", x.count(2), 1);
        D.due(call + "announced", x.count(3), -2);
    }

    /** LOTs of 100 in evening 0, worked out apart: seed 99: 0, seed 38: 99, seed 0: 49, seed 9999: 31. */
    private static void eveningCrackles() {
        D.sentence(13, "CRACKLE (LOT 100 of the SEED and 4 * the evening is less than it)");
        crackleOf(99, 0, 0);
        crackleOf(99, 1, 1);
        crackleOf(38, 98, 0);
        crackleOf(38, 99, 0);
        crackleOf(38, 100, 1);
        crackleOf(0, 49, 0);
        crackleOf(0, 50, 1);
        crackleOf(9999, 31, 0);
        crackleOf(9999, 32, 1);
        D.sentence(13, "CRACKLE 0 .. 100 (0), SEED 0 .. 9999 (0): the last one");
        VoiceTonight x = Dues.voice("crackle 100; seed 99; crackle 49;");
        D.due("count(12) of seed 99", x.count(12), 1);
        x = Dues.voice("seed 99; crackle 49; seed 0;");
        D.due("count(12) of seed 0", x.count(12), 0);
        x = Dues.voice("crackle 50;");
        D.due("count(12) of no seed", x.count(12), 1);
        x = Dues.voice("seed 99;");
        D.due("count(12) of no crackle", x.count(12), 0);
    }

    private static void lotFarOn(int seed, int evening, int lot) {
        for (int more = 0; more < 2; more++) {
            VoiceTonight x = Dues.voice("seed " + seed + "; crackle " + (lot + more) + ";");
            for (int left = evening; left > 0; left -= 30) {
                x.evenings(Math.min(30, left));
            }
            D.due("seed " + seed + ", evening " + x.count(2) + ", crackle " + (lot + more), x.count(12), more);
        }
    }

    private static void lotsFarOn() {
        D.sentence(13, "LOT n of a SEED and a which (32 bits that wrap)");
        int[] evenings = {29, 30, 31, 3000, 15000};
        int[] first = {13, 20, 75, 76, 68};
        int[] last = {77, 40, 0, 41, 27};
        for (int i = 0; i < evenings.length; i++) {
            lotFarOn(0, evenings[i], first[i]);
            lotFarOn(9999, evenings[i], last[i]);
        }
    }

    private static void beliefIs(int first, String moves, int due) {
        VoiceTonight x = Dues.voice("role a 1 1; listener l 0 1 " + first + "; trusts = 0; moves = " + moves + ";");
        x.announce(0);
        x.evenings(1);
        D.due("BELIEF " + first + " moved by " + moves, x.listener(0, 2), due);
        D.due("trusting or not", x.listener(0, 0), 0);
    }

    private static void beliefHeld() {
        D.sentence(13, "by how much BELIEF is more behind it, trusting or not (BELIEF 0 .. 99)");
        beliefIs(0, "0 - 1", 0);
        beliefIs(0, "0 - 99", 0);
        beliefIs(0, "0", 0);
        beliefIs(0, "99", 99);
        beliefIs(0, "9999", 99);
        beliefIs(1, "98", 99);
        beliefIs(1, "99", 99);
        beliefIs(99, "1", 99);
        beliefIs(99, "0 - 99", 0);
        beliefIs(99, "0 - 98", 1);
        beliefIs(99, "0 - 9999", 0);
        beliefIs(98, "1", 99);
        beliefIs(50, LEAST, 0);
        beliefIs(50, LEAST + " - 1", 99);
    }

    private static void quietOfOne() {
        D.sentence(13, "the ROLE is QUIET for so many evenings from the next one on (QUIET 1)");
        VoiceTonight x = Dues.voice("role a 1 1; listener l 0 1 50; really l a; rings = 1; quiet 1;");
        x.announce(0);
        D.due("QUIET this evening", x.role(0, 3), 0);
        x.evenings(1);
        D.due("QUIET the next one", x.role(0, 3), 1);
        D.due("count(4)", x.count(4), 1);
        D.due("announce(0)", x.announce(0), false);
        x.evenings(1);
        D.due("QUIET no more", x.role(0, 3), 0);
        D.due("count(4)", x.count(4), 0);
        D.due("announce(0)", x.announce(0), true);
    }

    private static void quietOfMost() {
        D.sentence(13, "QUIET 1 .. 99 (3); QUIET that there was is an evening less.");
        VoiceTonight x = Dues.voice("role a 1 1; role b 1 1; listener l 0 1 50; really l a; rings = 1; quiet 99;");
        x.announce(0);
        x.evenings(1);
        D.due("QUIET 99", x.role(0, 3), 99);
        x.announce(1);
        x.evenings(1);
        D.due("QUIET 98", x.role(0, 3), 98);
        D.due("b is not QUIET", x.role(1, 3), 0);
        x.evenings(30);
        x.evenings(30);
        x.evenings(30);
        x.evenings(7);
        D.due("QUIET 1", x.role(0, 3), 1);
        D.due("announce(0)", x.announce(0), false);
        x.evenings(1);
        D.due("QUIET 0", x.role(0, 3), 0);
        x.evenings(30);
        D.due("QUIET is not below 0", x.role(0, 3), 0);
        D.due("announce(0)", x.announce(0), true);
        x = Dues.voice("role a 1 1; listener l 0 1 50; really l a; rings = 1;");
        x.announce(0);
        x.evenings(1);
        D.due("QUIET 3, if not told", x.role(0, 3), 3);
        x = Dues.voice("quiet 99; role a 1 1; listener l 0 1 50; really l a; rings = 1; quiet 2;");
        x.announce(0);
        x.evenings(1);
        D.due("QUIET 2: the last one", x.role(0, 3), 2);
    }

    private static void quietAgain() {
        D.sentence(13, "if there is CRACKLE, nothing is heard; QUIET that there was is an evening less");
        VoiceTonight x = Dues.voice("role a 1 1; role b 1 1; listener l 0 1 50; really l a; really l b; rings = 1; quiet 2;");
        x.announce(0);
        x.evenings(1);
        x.announce(1);
        x.evenings(1);
        D.due("a: one left", x.role(0, 3), 1);
        D.due("b: two", x.role(1, 3), 2);
        x.evenings(1);
        D.due("a: none", x.role(0, 3), 0);
        D.due("b: one left", x.role(1, 3), 1);
        x.announce(0);
        x.evenings(1);
        D.due("a: two again", x.role(0, 3), 2);
        D.due("rung up", x.count(14), 3);
        // LOTs of seed 0: 49, then 88, 83, 50
        x = Dues.voice("role a 1 1; listener l 0 1 50; really l a; rings = 1; quiet 2; crackle 84;");
        x.evenings(1);
        D.due("no CRACKLE in evening 1", x.count(12), 0);
        x.announce(0);
        x.evenings(1);
        D.due("CRACKLE in evening 2", x.count(12), 1);
        D.due("QUIET 2", x.role(0, 3), 2);
        x.evenings(1);
        D.due("QUIET 1, by CRACKLE too", x.role(0, 3), 1);
    }

    private static void deaf() {
        D.sentence(13, "each LISTENER whose set is ON (none, some)");
        VoiceTonight x = Dues.voice("role a 255 1; listener l 0 255 50; listener m 0 255 50; really l a; moves = 9; rings = 1;");
        x.turn(0, false);
        x.turn(1, false);
        x.announce(0);
        x.evenings(1);
        for (int l = 0; l < 2; l++) {
            D.due("known", x.listener(l, 0), 0);
            D.due("BELIEF", x.listener(l, 2), 50);
        }
        D.due("HEARD with all OFF", x.role(0, 2), 1);
        D.due("QUIET, the caller's set being OFF", x.role(0, 3), 0);
        x.turn(1, true);
        x.announce(0);
        x.evenings(1);
        D.due("known by m", x.listener(1, 0), 255);
        D.due("QUIET by m, who is not REALLY a", x.role(0, 3), 0);
        x.turn(0, true);
        x.announce(0);
        x.evenings(1);
        D.due("QUIET by l", x.role(0, 3), 3);
    }

    // ---- promises 14, 43 and 44

    private static void undoNone() {
        D.sentence(14, "false: there is none");
        VoiceTonight x = new VoiceTonight();
        D.due("undo() of a new object", x.undo(), false);
        x = Dues.voice(CAST);
        int[] before = Dues.all(x);
        D.due("undo() of a new text", x.undo(), false);
        x.evenings(0);
        x.announce(9);
        x.turn(0, true);
        x.inform(0, 0);
        x.talk(0, 0);
        x.evenings(31);
        D.due("undo() of refused ones", x.undo(), false);
        x.tellFact(0, true);
        x.forget();
        x.hold(0);
        x.feed(1, 2, 3, 4, 5);
        x.back(20);
        D.due("undo() of what is no thing done", x.undo(), false);
        before[11] = 1;
        D.unchanged("undo()", x, before);
        x.turn(0, false);
        D.due("undo()", x.undo(), true);
        D.due("undo() of an undo()", x.undo(), false);
        D.unchanged("undo()", x, before);
    }

    private static void undoForty() {
        D.sentence(14, "(the last 40 can be)");
        for (int things : new int[] {39, 40, 41, 79, 80, 81, 120}) {
            VoiceTonight x = Dues.voice(CAST);
            for (int i = 0; i < things; i++) {
                x.evenings(1);
            }
            int back = Math.min(40, things);
            D.due("count(9) of " + things, x.count(9), back);
            for (int i = 0; i < back; i++) {
                D.due("undo() " + i + " of " + things, x.undo(), true);
            }
            D.due("count(9)", x.count(9), 0);
            D.due("undo() of one more", x.undo(), false);
            D.due("the evening", x.count(2), things - back);
            D.due("evenings(2)", x.evenings(2), things - back + 2);
            D.due("undo() anew", x.undo(), true);
            D.due("the evening", x.count(2), things - back);
        }
    }

    private static void undoEachKind() {
        D.sentence(14, "The last thing done (announce, turn, inform, talk, evenings) is undone: true");
        VoiceTonight x = Dues.voice(CAST);
        int[][] before = new int[8][];
        for (int thing = 0; thing < 8; thing++) {
            before[thing] = Dues.all(x);
            switch (thing) {
                case 0: D.due("announce", x.announce(1), true); break;
                case 1: D.due("announce in its place", x.announce(0), true); break;
                case 2: D.due("turn", x.turn(1, false), true); break;
                case 3: D.due("evenings", x.evenings(30), 30); break;
                case 4: D.due("inform", x.inform(1, 7), true); break;
                case 5: D.due("talk", x.talk(0, 1), 4); break;
                case 6: D.due("talk without news", x.talk(0, 1), 0); break;
                default: D.due("turn", x.turn(1, true), true);
            }
        }
        for (int thing = 7; thing >= 0; thing--) {
            D.due("undo() of thing " + thing, x.undo(), true);
            D.unchanged("thing " + thing + " and its undo()", x, before[thing]);
        }
        D.due("undo() of one more", x.undo(), false);
    }

    private static void hold() {
        D.sentence(43, "false: no such one.");
        VoiceTonight x = underway();
        int[] before = Dues.all(x);
        for (int slot : new int[] {-1, 3, 4, 31, 32, 33, MAX, MIN}) {
            D.due("hold(" + slot + ")", x.hold(slot), false);
            D.unchanged("hold(" + slot + ")", x, before);
        }
        D.sentence(43, "is held in a SLOT (0 .. 2): true");
        x = Dues.voice(CAST);
        for (int slot = 0; slot < 3; slot++) {
            D.due("hold(" + slot + ")", x.hold(slot), true);
            D.due("count(11)", x.count(11), slot + 1);
            x.evenings(1);
        }
        for (int slot = 0; slot < 3; slot++) {
            D.due("restore(" + slot + ")", x.restore(slot), true);
            D.due("the evening", x.count(2), slot);
        }
    }

    private static void holdAgain() {
        D.sentence(43, "All that goes on (not what is TOLD, nor the tape) is held");
        VoiceTonight x = Dues.voice(CAST);
        x.hold(2);
        x.evenings(3);
        D.due("hold(2) of a slot that is full", x.hold(2), true);
        D.due("count(11)", x.count(11), 1);
        D.due("things that can be undone stay", x.count(9), 1);
        x.tellFact(3, true);
        x.tellFact(4, false);
        x.feed(1, 2, 3, 4, 5);
        x.evenings(1);
        D.due("restore(2)", x.restore(2), true);
        D.due("the evening", x.count(2), 3);
        D.due("TOLD ones", x.count(10), 2);
        D.due("the tape", x.count(8), 20);
        x.forget();
        x.back(20);
        D.due("restore(2)", x.restore(2), true);
        D.due("TOLD ones", x.count(10), 0);
        D.due("the tape", x.count(8), 0);
    }

    private static void restore() {
        D.sentence(44, "false, and nothing happens: no such one, nothing is held.");
        VoiceTonight x = underway();
        int[] before = Dues.all(x);
        for (int slot : new int[] {0, 2, -1, 3, 4, 32, 33, MAX, MIN}) {
            D.due("restore(" + slot + ")", x.restore(slot), false);
            D.unchanged("restore(" + slot + ")", x, before);
        }
        D.due("undo() as before", x.undo(), true);
        x.back(20);
        x.read();
        D.due("restore(1) behind a text", x.restore(1), false);
    }

    private static void restoreStays() {
        D.sentence(44, "It goes on from what a SLOT holds (that stays there; nothing can be undone then): true");
        VoiceTonight x = underway();
        x.back(20);
        int[] before = Dues.all(x);
        before[9] = 0;
        for (int i = 0; i < 3; i++) {
            x.evenings(5);
            x.announce(1);
            x.turn(0, true);
            x.inform(0, 7);
            x.evenings(1);
            x.turn(1, false);
            D.due("rung up once more", x.count(14), 2);
            D.due("restore(1)", x.restore(1), true);
            D.unchanged("what came behind hold(1)", x, before);
            D.due("undo()", x.undo(), false);
        }
        D.due("announce(0): it is so", x.announce(0), false);
        D.due("announce(1): QUIET", x.announce(1), false);
        D.due("evenings(1)", x.evenings(1), 2);
        D.due("undo() of what came then", x.undo(), true);
        D.due("undo() of one more", x.undo(), false);
        D.unchanged("undo() behind restore()", x, before);
    }

    // ---- promise 45

    private static void counts() {
        D.sentence(45, "NONE for others.");
        VoiceTonight x = underway();
        for (int what : new int[] {-1, -2, 18, 19, 32, MAX, MIN}) {
            D.due("count(" + what + ")", x.count(what), -1);
        }
        D.sentence(45, "0 ROLES .. 17 LISTENERS who are REALLY some ROLE (bits)");
        int[] due = {2, 2, 1, 0, 2, 2, 2, 5, 20, 4, 1, 1, 0, 1, 1, 1, 149, 2};
        for (int what = 0; what < due.length; what++) {
            D.due("count(" + what + ")", x.count(what), due[what]);
        }
    }

    private static void countsEmptyAndFull() {
        D.sentence(45, "3 the ROLE that is ANNOUNCED (-2: none); none and all of the others");
        VoiceTonight x = Dues.voice("role a 0 0; listener l 0 255 0;");
        int[] none = {1, 1, 0, -2, 0, 0, 1, 0, 0, 0, 0, 0, 0, 0, 0, 1, 0, 0};
        for (int what = 0; what < none.length; what++) {
            D.due("count(" + what + ") of little", x.count(what), none[what]);
        }
        x = Dues.voice(FULL.replace("v 0 0 0", "v 255 0 99") + "really u a;really v b;really w c;really x d;really y e;really z f; rings = 1; crackle 0; quiet 99;");
        for (int r = 0; r < 6; r++) {
            x.announce(r);
            D.due("count(3)", x.count(3), r);
            D.due("count(15)", x.count(15), 63 - ((1 << r) - 1));
            x.evenings(1);
            D.due("count(4)", x.count(4), (2 << r) - 1);
        }
        for (int i = 0; i < 20; i++) {
            x.tellFact(0, true);
        }
        for (int slot = 0; slot < 3; slot++) {
            x.hold(slot);
        }
        int[] all = {6, 6, 6, -2, 63, 63, 63, 48, 0, 12, 20, 3, 0, 6, 6, 0, 594, 63};
        for (int what = 0; what < all.length; what++) {
            D.due("count(" + what + ") of all", x.count(what), all[what]);
        }
        D.due("count(12) of crackle 100", Dues.voice("crackle 100;").count(12), 1);
    }
}
