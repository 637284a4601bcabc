/** Boundary cases of promises 15 to 37: what would be. */
public final class BoundsOfTrialsTest {
    private static final Dues D = new Dues();
    private static final int MIN = Integer.MIN_VALUE;
    private static final int MAX = Integer.MAX_VALUE;
    private static final int[] NO_WHATS = {-1, 2, 3, 32, MAX, MIN};
    private static final int[] NO_EVENINGS = {-1, -30, 31, 32, MAX, MIN};
    /** What no LISTENER and no ROLE of a text with two of each is called by. */
    private static final int[] NO_SUCH = {-1, 2, 3, 5, 6, 32, MAX, MIN};
    private static final String TWO = "role a 3 2; role b 12 7; listener l 1 7 40; listener m 8 12 90; really m b; rings = 1; moves = 10; quiet 2;";
    /** Six ROLES, each with a FACT of its own. */
    private static final String SIX_ROLES = "role a 1 1;role b 2 1;role c 4 1;role d 8 1;role e 16 1;role f 32 1;";

    public static void main(String[] args) {
        tonightOfNone();
        tonightOfNobody();
        tonightOfAll();
        tonightAnyway();
        bestOfNone();
        bestOfAlike();
        planOfNone();
        planOfLengths();
        planOfAll();
        planOfAlike();
        planOfQuiet();
        starOfNone();
        starOfAlike();
        credit();
        missing();
        holders();
        rarest();
        rarestOfAlike();
        seriesOfNone();
        seriesOfLengths();
        longOfNone();
        longOfLengths();
        callers();
        swayOfNone();
        swayHeld();
        circleOfNone();
        circleOfSizes();
        doubles();
        faith();
        faithOfMost();
        never();
        apartOfNone();
        apartOfSizes();
        unlike();
        rumourOfNone();
        rumourOfAlike();
        talks();
        then();
        thenCrackles();
        quietIn();
        sureOfNone();
        sureOfSeeds();
        sureOfEvenings();
        nothingHappens();
        D.endOf(15, 16, 17, 18, 19, 20, 21, 22, 23, 24, 25, 26, 27, 28, 29, 30, 31, 32, 33, 34, 35, 36, 37);
    }

    /** Evening 1: b is QUIET for two evenings, a is ANNOUNCED, l is OFF. */
    private static VoiceTonight underway() {
        VoiceTonight x = Dues.voice(TWO);
        x.announce(1);
        x.evenings(1);
        x.turn(0, false);
        x.announce(0);
        return x;
    }

    private static void tonightIs(VoiceTonight x, int role, int... due) {
        for (int what = 0; what < 4; what++) {
            D.due("tonight(" + role + ", " + what + ")", x.tonight(role, what), due[what]);
        }
    }

    // ---- promises 15 and 16

    private static void tonightOfNone() {
        D.sentence(15, "NONE: no such ones.");
        VoiceTonight x = underway();
        for (int role : NO_SUCH) {
            tonightIs(x, role, -1, -1, -1, -1);
        }
        for (int what : new int[] {-1, 4, 5, 32, MAX, MIN}) {
            D.due("tonight(0, " + what + ")", x.tonight(0, what), -1);
            D.due("tonight(2, " + what + ")", x.tonight(2, what), -1);
        }
    }

    private static void tonightOfNobody() {
        D.sentence(15, "FACTS SAID; who would TRUST it, their set ON (none of them)");
        VoiceTonight x = Dues.voice("role a 255 1; listener l 0 1 1; listener m 0 0 1; says = 0;");
        tonightIs(x, 0, 0, 3, 2, 0);
        x = Dues.voice("role a 255 1; listener l 0 1 1; listener m 0 0 1; trusts = 0;");
        tonightIs(x, 0, 255, 0, 2, 0);
        x = Dues.voice("role a 255 1; listener l 0 1 1; listener m 0 0 1;");
        x.turn(0, false);
        x.turn(1, false);
        tonightIs(x, 0, 255, 0, 2, 0);
        x = Dues.voice("role a 255 1;");
        tonightIs(x, 0, 255, 0, 0, 0);
        x = Dues.voice("role a 0 1; listener l 0 1 1;");
        tonightIs(x, 0, 0, 1, 0, 0);
    }

    private static void tonightOfAll() {
        D.sentence(15, "who would have DONE it; how many FACTS more (all of them)");
        String six = "listener u 0 255 1;listener v 0 255 1;listener w 0 255 1;listener x 0 255 1;listener y 0 255 1;listener z 0 255 1;";
        tonightIs(Dues.voice("role a 255 1;" + six), 0, 255, 63, 63, 48);
        tonightIs(Dues.voice("role a 254 1;" + six), 0, 254, 63, 0, 42);
        tonightIs(Dues.voice("role a 255 1;" + six.replace(" 0 255", " 255 255")), 0, 255, 63, 63, 0);
        tonightIs(Dues.voice("role a 255 1;" + six.replace(" 0 255", " 127 255")), 0, 255, 63, 63, 6);
    }

    private static void tonightAnyway() {
        D.sentence(15, "TONIGHT of a ROLE (QUIET or not); no CRACKLE but in EVENINGS");
        VoiceTonight x = underway();
        // l knows 13, m knows 12 by now; l is OFF
        tonightIs(x, 0, 3, 2, 2, 2);
        tonightIs(x, 1, 12, 2, 2, 0);
        x = Dues.voice("role a 7 1; listener l 0 7 1; crackle 100;");
        tonightIs(x, 0, 7, 1, 1, 3);
    }

    private static void bestOfNone() {
        D.sentence(16, "-2: none that is not QUIET; NONE for others.");
        VoiceTonight x = Dues.voice("listener l 0 1 1;");
        D.due("best(0) of no ROLES", x.best(0), -2);
        D.due("best(1) of no ROLES", x.best(1), -2);
        x = Dues.voice("role a 1 1; role b 2 1; listener l 0 3 1; really l a; really l b; rings = 1; quiet 2;");
        x.announce(1);
        x.evenings(1);
        D.due("best(0), one QUIET", x.best(0), 0);
        x.announce(0);
        x.evenings(1);
        D.due("best(0), all QUIET", x.best(0), -2);
        D.due("best(1), all QUIET", x.best(1), -2);
        for (int what : NO_WHATS) {
            D.due("best(" + what + ")", x.best(what), -1);
            D.due("best(" + what + ") of no ROLES", new VoiceTonight().best(what), -1);
        }
        x.evenings(1);
        D.due("best(0), QUIET no more", x.best(0), 1);
        D.due("best(1): 0 more", x.best(1), 0);
    }

    private static void bestOfAlike() {
        D.sentence(16, "with most such FACTS, of alike ones the first");
        VoiceTonight x = Dues.voice("role a 0 1; role b 1 1; role c 2 1; listener l 0 1 1;");
        D.due("best(0)", x.best(0), 1);
        D.due("best(1)", x.best(1), 1);
        x.inform(0, 0);
        D.due("best(0)", x.best(0), 2);
        x.inform(0, 1);
        D.due("best(0) of 0 each", x.best(0), 0);
        D.due("best(1) of 0 each", x.best(1), 0);
        x = Dues.voice(SIX_ROLES.replace("32", "255") + "listener l 0 1 1;");
        D.due("best(0): the last one", x.best(0), 5);
        D.due("best(1)", x.best(1), 8);
    }

    // ---- promise 17

    private static void planIs(VoiceTonight x, int listener, int... due) {
        D.due("plan(" + listener + ", -1)", x.plan(listener, -1), due.length);
        for (int i = 0; i < 4; i++) {
            D.due("plan(" + listener + ", " + i + ")", x.plan(listener, i), i < due.length ? due[i] : -1);
        }
        D.due("plan(" + listener + ", 4)", x.plan(listener, 4), -1);
        D.due("plan(" + listener + ", -2)", x.plan(listener, -2), -1);
    }

    private static void noPlan(VoiceTonight x, int listener) {
        for (int i = -1; i < 4; i++) {
            D.due("plan(" + listener + ", " + i + ")", x.plan(listener, i), -2);
        }
        for (int i : new int[] {-2, 4, 5, MAX, MIN}) {
            D.due("plan(" + listener + ", " + i + ")", x.plan(listener, i), -1);
        }
    }

    private static void planOfNone() {
        D.sentence(17, "NONE: no such ones (i 0 .. 3), not so many.");
        VoiceTonight x = underway();
        for (int listener : new int[] {-2, 2, 3, 6, 32, MAX, MIN}) {
            for (int i = -2; i < 5; i++) {
                D.due("plan(" + listener + ", " + i + ")", x.plan(listener, i), -1);
            }
        }
        for (int i : new int[] {-2, 4, 5, 32, MAX, MIN}) {
            D.due("plan(1, " + i + ")", x.plan(1, i), -1);
            D.due("plan(-1, " + i + ")", x.plan(-1, i), -1);
        }
        planIs(x, 1);
        planIs(new VoiceTonight(), -1);
    }

    private static void planOfLengths() {
        D.sentence(17, "the fewest evenings (0 .. 4); -2: not by four (i NONE or not)");
        VoiceTonight x = Dues.voice(SIX_ROLES + "listener l 0 0 1;listener m 0 32 1;listener n 0 33 1;listener o 0 42 1;listener p 0 45 1;listener q 0 31 1;");
        planIs(x, 0);
        planIs(x, 1, 5);
        planIs(x, 2, 0, 5);
        planIs(x, 3, 1, 3, 5);
        planIs(x, 4, 0, 2, 3, 5);
        noPlan(x, 5);
        x.inform(5, 0);
        planIs(x, 5, 1, 2, 3, 4);
        x = Dues.voice(SIX_ROLES + "listener l 0 64 1; listener m 0 1 1;");
        noPlan(x, 0);
        noPlan(x, -1);
        x = Dues.voice(SIX_ROLES + "listener l 0 1 1; listener m 1 1 1;");
        x.turn(0, false);
        x.turn(1, false);
        noPlan(x, 0);
        planIs(x, 1);
        x = Dues.voice("listener l 0 1 1; listener m 0 0 1;");
        noPlan(x, 0);
        planIs(x, 1);
    }

    private static void planOfAll() {
        D.sentence(17, "PLAN for a LISTENER (NONE: for all) .. (all have, at once)");
        VoiceTonight x = Dues.voice(SIX_ROLES + "listener l 0 3 1; listener m 0 12 1; listener n 0 16 1;");
        planIs(x, 0, 0, 1);
        planIs(x, 1, 2, 3);
        planIs(x, 2, 4);
        noPlan(x, -1);
        x.inform(2, 4);
        planIs(x, -1, 0, 1, 2, 3);
        x.inform(0, 0);
        planIs(x, -1, 1, 2, 3);
        x.inform(0, 1);
        x.inform(1, 2);
        planIs(x, -1, 3);
        x.inform(1, 3);
        planIs(x, -1);
        planIs(Dues.voice(SIX_ROLES), -1);
        x = Dues.voice(SIX_ROLES + "listener l 0 3 1; listener m 0 3 1; listener n 2 3 1;");
        planIs(x, -1, 0, 1);
        x.turn(1, false);
        noPlan(x, -1);
        planIs(x, 2, 0);
    }

    private static void planOfAlike() {
        D.sentence(17, "the ROLES, of alike ones the lowest first, then the next one");
        VoiceTonight x = Dues.voice("role a 1 1;role b 3 1;role c 3 1;role d 4 1;role e 4 1; listener l 0 3 1; listener m 0 7 1; listener n 0 5 1;");
        planIs(x, 0, 1);
        planIs(x, 1, 1, 3);
        planIs(x, 2, 0, 3);
        // it is TRUSTED from evening 3 on
        x = Dues.voice("role a 1 1;role b 2 1; listener l 0 2 1; trusts = evening - 2;");
        planIs(x, 0, 0, 0, 0, 1);
        x = Dues.voice("role a 1 1;role b 2 1; listener l 0 2 1; trusts = evening - 3;");
        noPlan(x, 0);
        x.evenings(1);
        planIs(x, 0, 0, 0, 0, 1);
    }

    private static void planOfQuiet() {
        D.sentence(17, "in each of which one ROLE, not QUIET then, is ANNOUNCED");
        String cast = "listener l 0 1 1; really l a; rings = 1; says = times; quiet ";
        // a alone: none is there to be ANNOUNCED while it is QUIET
        noPlan(Dues.voice("role a 1 1;" + cast + "1;"), 0);
        planIs(Dues.voice("role a 1 1; role b 0 1;" + cast + "1;"), 0, 0, 1, 0);
        planIs(Dues.voice("role a 1 1; role b 0 1;" + cast + "2;"), 0, 0, 1, 1, 0);
        noPlan(Dues.voice("role a 1 1; role b 0 1;" + cast + "3;"), 0);
        VoiceTonight x = Dues.voice("role a 1 1; role b 0 1;" + cast + "3;");
        x.announce(0);
        x.evenings(1);
        planIs(x, 0, 1, 1, 1, 0);
        x.announce(1);
        planIs(x, 0, 1, 1, 1, 0);
        x = Dues.voice("role a 1 1;" + cast + "3;");
        x.announce(0);
        x.evenings(1);
        noPlan(x, 0);
        x.evenings(3);
        planIs(x, 0, 0);
    }

    // ---- promises 18 to 22

    private static void starOfNone() {
        D.sentence(18, "-2: no ROLES; NONE for others.");
        VoiceTonight x = Dues.voice("listener l 0 1 1;");
        D.due("star(0)", x.star(0), -2);
        D.due("star(1)", x.star(1), -2);
        for (int what : NO_WHATS) {
            D.due("star(" + what + ") of no ROLES", x.star(what), -1);
            D.due("star(" + what + ")", underway().star(what), -1);
        }
        x = Dues.voice("role a 1 1;");
        D.due("star(0) of no LISTENERS", x.star(0), 0);
        D.due("star(1) of no LISTENERS", x.star(1), 0);
    }

    private static void starOfAlike() {
        D.sentence(18, "the ROLE, QUIET or not, that most TRUST now, their set ON, of alike ones the first; how many");
        VoiceTonight x = underway();
        D.due("star(0)", x.star(0), 0);
        D.due("star(1): m alone is ON", x.star(1), 1);
        x = Dues.voice("role a 1 0; role b 1 1; role c 1 1; listener l 0 1 1; listener m 0 1 1; really l b; trusts = fame; rings = 1;");
        D.due("star(0)", x.star(0), 1);
        D.due("star(1)", x.star(1), 2);
        x.announce(1);
        x.evenings(1);
        D.due("star(0), QUIET", x.star(0), 1);
        x.turn(0, false);
        x.turn(1, false);
        D.due("star(0), all OFF", x.star(0), 0);
        D.due("star(1), all OFF", x.star(1), 0);
        x = Dues.voice(SIX_ROLES.replace("32 1", "32 9") + "listener l 0 1 1; trusts = fame - 1;");
        D.due("star(0): the last one", x.star(0), 5);
    }

    private static void credit() {
        D.sentence(19, "CREDIT (bits; their set ON or not); NONE: no such LISTENER.");
        VoiceTonight x = underway();
        for (int listener : NO_SUCH) {
            D.due("credit(" + listener + ")", x.credit(listener), -1);
        }
        D.due("credit(0), OFF", x.credit(0), 3);
        D.due("credit(1)", x.credit(1), 3);
        D.due("credit(0) of no ROLES", Dues.voice("listener l 0 1 1;").credit(0), 0);
        D.due("credit(0) of all", Dues.voice(SIX_ROLES + "listener l 0 1 1;").credit(0), 63);
        D.due("credit(0) of none", Dues.voice(SIX_ROLES + "listener l 0 1 1; trusts = 0;").credit(0), 0);
        D.due("credit(0) of the last", Dues.voice(SIX_ROLES.replace("32 1", "32 2") + "listener l 0 1 1; trusts = fame - 1;").credit(0), 32);
    }

    private static void missing() {
        D.sentence(20, "MISSING (bits); NONE: no such LISTENER.");
        VoiceTonight x = Dues.voice("listener l 0 255 1; listener m 255 255 1; listener n 0 0 1; listener o 127 255 1; listener p 254 1 1;");
        int[] due = {255, 0, 0, 128, 1};
        for (int l = 0; l < 5; l++) {
            D.due("missing(" + l + ")", x.missing(l), due[l]);
        }
        for (int no : new int[] {-1, 5, 6, 32, MAX, MIN}) {
            D.due("missing(" + no + ")", x.missing(no), -1);
        }
    }

    private static void holders() {
        D.sentence(21, "HOLDERS (bits); NONE: no such FACT.");
        VoiceTonight x = Dues.voice("listener u 129 0 1;listener v 129 0 1;listener w 129 0 1;listener x 129 0 1;listener y 129 0 1;listener z 131 0 1;");
        int[] due = {63, 32, 0, 0, 0, 0, 0, 63};
        for (int fact = 0; fact < 8; fact++) {
            D.due("holders(" + fact + ")", x.holders(fact), due[fact]);
            D.due("holders(" + fact + ") of nobody", new VoiceTonight().holders(fact), 0);
        }
        for (int no : new int[] {-1, 8, 9, 31, 32, 33, MAX, MIN}) {
            D.due("holders(" + no + ")", x.holders(no), -1);
            D.due("holders(" + no + ") of nobody", new VoiceTonight().holders(no), -1);
        }
    }

    private static void rarest() {
        D.sentence(22, "NONE for others.");
        for (int what : NO_WHATS) {
            D.due("rarest(" + what + ")", underway().rarest(what), -1);
            D.due("rarest(" + what + ") of nobody", new VoiceTonight().rarest(what), -1);
        }
    }

    private static void rarestIs(String text, int which, int howMany) {
        VoiceTonight x = Dues.voice(text);
        D.due("rarest(0) of " + text, x.rarest(0), which);
        D.due("rarest(1) of " + text, x.rarest(1), howMany);
    }

    private static void rarestOfAlike() {
        D.sentence(22, "the FACT that fewest LISTENERS know, of alike ones the first; how many");
        rarestIs("", 0, 0);
        rarestIs("role a 255 1;", 0, 0);
        rarestIs("listener l 0 0 1;", 0, 0);
        rarestIs("listener l 255 0 1;", 0, 1);
        rarestIs("listener l 127 0 1;", 7, 0);
        rarestIs("listener l 1 0 1;", 1, 0);
        rarestIs("listener l 255 0 1; listener m 127 0 1;", 7, 1);
        rarestIs("listener l 255 0 1; listener m 63 0 1;", 6, 1);
        rarestIs("listener u 255 0 1;listener v 255 0 1;listener w 255 0 1;listener x 255 0 1;listener y 255 0 1;listener z 255 0 1;", 0, 6);
    }

    // ---- promises 23 to 26

    private static void seriesOfNone() {
        D.sentence(23, "NONE: no such ones. (n evenings 1 .. 30)");
        VoiceTonight x = underway();
        for (int role : NO_SUCH) {
            D.due("series(" + role + ", 1)", x.series(role, 1), -1);
            D.due("series(" + role + ", 0)", x.series(role, 0), -1);
        }
        for (int n : NO_EVENINGS) {
            D.due("series(0, " + n + ")", x.series(0, n), -1);
        }
        D.due("series(0, 0)", x.series(0, 0), -1);
        D.due("series(0, 1)", x.series(0, 1), 2);
        D.due("series(0, 30)", x.series(0, 30), 2);
        D.due("series(1, 1) of no LISTENERS", Dues.voice("role a 1 1; role b 2 1;").series(1, 1), 0);
    }

    private static void seriesOfLengths() {
        D.sentence(23, "in each of which it is ANNOUNCED unless it is QUIET then: how many FACTS more are known behind them, of all");
        VoiceTonight x = Dues.voice("role a 1 1; listener l 0 1 1; says = times - 28; crackle 100;");
        D.due("series(0, 29)", x.series(0, 29), 0);
        D.due("series(0, 30): SAID in the 30th", x.series(0, 30), 1);
        // rung up in the first evening, then QUIET until the 30th
        String ring = "role a 1 1; listener l 0 1 1; really l a; rings = 1; says = times; quiet ";
        D.due("series(0, 30), QUIET 28", Dues.voice(ring + "28;").series(0, 30), 1);
        D.due("series(0, 29), QUIET 28", Dues.voice(ring + "28;").series(0, 29), 0);
        D.due("series(0, 30), QUIET 29", Dues.voice(ring + "29;").series(0, 30), 0);
        D.due("series(0, 30), QUIET 99", Dues.voice(ring + "99;").series(0, 30), 0);
        D.due("series(0, 2), QUIET 1", Dues.voice(ring + "1;").series(0, 2), 0);
        D.due("series(0, 3), QUIET 1", Dues.voice(ring + "1;").series(0, 3), 1);
        x = underway();
        D.due("series(1, 2), QUIET still", x.series(1, 2), 0);
        x = Dues.voice("role a 255 1;listener u 0 0 1;listener v 0 0 1;listener w 0 0 1;listener x 0 0 1;listener y 0 0 1;listener z 0 0 1;");
        D.due("series(0, 1) of all", x.series(0, 1), 48);
    }

    private static void longOfNone() {
        D.sentence(24, "NONE: no such ones.");
        VoiceTonight x = underway();
        for (int no : NO_SUCH) {
            D.due("longOf(" + no + ", 0)", x.longOf(no, 0), -1);
            D.due("longOf(0, " + no + ")", x.longOf(0, no), -1);
            D.due("longOf(1, " + no + "), DONE", x.longOf(1, no), -1);
            D.due("longOf(no, no)", x.longOf(no, no), -1);
        }
    }

    private static void longOfLengths() {
        D.sentence(24, "LONG (0: now); -2: not (0 .. 30)");
        int[] late = {0, 1, 2, 28, 29, 30, 31};
        int[] due = {1, 1, 2, 28, 29, 30, -2};
        for (int i = 0; i < late.length; i++) {
            VoiceTonight x = Dues.voice("role a 1 1; listener l 0 1 1; says = times + 2 - " + late[i] + "; crackle 100;");
            D.due("longOf(0, 0), SAID in evening " + late[i], x.longOf(0, 0), due[i]);
        }
        VoiceTonight x = underway();
        D.due("longOf(1, 0): DONE now", x.longOf(1, 0), 0);
        D.due("longOf(0, 0): OFF", x.longOf(0, 0), -2);
        String ring = "role a 1 1; listener l 0 1 1; really l a; rings = 1; says = times; quiet ";
        D.due("longOf(0, 0), QUIET 28", Dues.voice(ring + "28;").longOf(0, 0), 30);
        D.due("longOf(0, 0), QUIET 29", Dues.voice(ring + "29;").longOf(0, 0), -2);
        x = Dues.voice("role a 1 1; listener l 0 0 1; listener m 0 2 1; trusts = 0;");
        D.due("longOf(0, 0): nothing NEEDED", x.longOf(0, 0), 0);
        D.due("longOf(1, 0): never", x.longOf(1, 0), -2);
    }

    private static void callers() {
        D.sentence(25, "CALLERS (bits); NONE: no such ROLE.");
        VoiceTonight x = underway();
        for (int no : NO_SUCH) {
            D.due("callers(" + no + ")", x.callers(no), -1);
        }
        D.due("callers(0): nobody is REALLY it", x.callers(0), 0);
        D.due("callers(1), QUIET", x.callers(1), 2);
        x.turn(1, false);
        D.due("callers(1), OFF", x.callers(1), 0);
        String all = "role a 1 1;listener u 0 0 1;listener v 0 0 1;listener w 0 0 1;listener x 0 0 1;listener y 0 0 1;listener z 0 0 1;"
                + "really u a;really v a;really w a;really x a;really y a;really z a;";
        D.due("callers(0) of all", Dues.voice(all + "rings = 1;").callers(0), 63);
        D.due("callers(0) by 0 and more", Dues.voice(all + "rings = which;").callers(0), 62);
        D.due("callers(0), if not told", Dues.voice(all).callers(0), 0);
        D.due("callers(0) of no LISTENERS", Dues.voice("role a 1 1; rings = 1;").callers(0), 0);
    }

    private static void swayOfNone() {
        D.sentence(26, "-100000: no such ROLE.");
        VoiceTonight x = underway();
        for (int no : NO_SUCH) {
            D.due("sway(" + no + ")", x.sway(no), -100000);
        }
        D.due("sway(0) of no LISTENERS", Dues.voice("role a 1 1; moves = 5;").sway(0), 0);
        D.due("sway(1) of one ROLE", Dues.voice("role a 1 1; moves = 5;").sway(1), -100000);
    }

    private static void swayHeld() {
        D.sentence(26, "SWAY (may be below 0): by how much BELIEF of all, together, would be more (BELIEF 0 .. 99)");
        String low = "role a 1 1;listener u 0 0 0;listener v 0 0 0;listener w 0 0 0;listener x 0 0 0;listener y 0 0 0;listener z 0 0 0;";
        String high = low.replace("0 0 0", "0 0 99");
        D.due("sway(0), from 0 up", Dues.voice(low + "moves = 9999;").sway(0), 594);
        D.due("sway(0), from 99 down", Dues.voice(high + "moves = 0 - 9999;").sway(0), -594);
        D.due("sway(0), from 99 up", Dues.voice(high + "moves = 1;").sway(0), 0);
        D.due("sway(0), from 0 down", Dues.voice(low + "moves = 0 - 1;").sway(0), 0);
        D.due("sway(0), CRACKLE", Dues.voice(low + "moves = 1; crackle 100;").sway(0), 6);
        VoiceTonight x = underway();
        // m has 99 already, l is OFF
        D.due("sway(0)", x.sway(0), 0);
        D.due("sway(1), QUIET", x.sway(1), 0);
        x.turn(0, true);
        D.due("sway(0), ON", x.sway(0), 10);
        D.due("sway(1), QUIET, ON", x.sway(1), 10);
    }

    // ---- promises 27 to 34

    private static void circleOfNone() {
        D.sentence(27, "-2: not all together; NONE: no such ones.");
        VoiceTonight x = Dues.voice("listener l 1 7 1; listener m 2 3 1;");
        for (int no : NO_SUCH) {
            D.due("circle(" + no + ", 0)", x.circle(no, 0), -1);
            D.due("circle(" + no + ", 1)", x.circle(no, 1), -1);
        }
        for (int what : NO_WHATS) {
            D.due("circle(0, " + what + ")", x.circle(0, what), -1);
            D.due("circle(1, " + what + ")", x.circle(1, what), -1);
        }
        D.due("circle(0, 0)", x.circle(0, 0), -2);
        D.due("circle(0, 1)", x.circle(0, 1), -2);
        D.due("circle(0, 0) of one alone", Dues.voice("listener l 1 3 1;").circle(0, 0), -2);
    }

    private static void circleIs(VoiceTonight x, int listener, int size, int bits) {
        D.due("circle(" + listener + ", 0)", x.circle(listener, 0), size);
        D.due("circle(" + listener + ", 1)", x.circle(listener, 1), bits);
    }

    private static void circleOfSizes() {
        D.sentence(27, "the fewest others (0 .. 5) .. of as many the least bits");
        String six = "listener u 1 63 1;listener v 2 31 1;listener w 4 15 1;listener x 8 12 1;listener y 16 16 1;listener z 32 0 1;";
        VoiceTonight x = Dues.voice(six);
        circleIs(x, 0, 5, 62);
        circleIs(x, 1, 4, 29);
        circleIs(x, 2, 3, 11);
        circleIs(x, 3, 1, 4);
        circleIs(x, 4, 0, 0);
        circleIs(x, 5, 0, 0);
        x.inform(0, 5);
        circleIs(x, 0, 4, 30);
        x = Dues.voice("listener u 0 3 1;listener v 1 0 1;listener w 2 0 1;listener x 1 0 1;listener y 2 0 1;listener z 3 3 1;");
        circleIs(x, 0, 1, 32);
        circleIs(x, 1, 0, 0);
        x = Dues.voice("listener u 0 3 1;listener v 1 0 1;listener w 2 0 1;listener x 1 0 1;listener y 2 0 1;");
        circleIs(x, 0, 2, 6);
        x = Dues.voice("listener u 0 1 1;listener v 0 1 1;listener w 1 0 1;listener x 1 0 1;");
        circleIs(x, 0, 1, 4);
        circleIs(x, 1, 1, 4);
    }

    private static void doubles() {
        D.sentence(28, "how many pairs of ROLES one LISTENER is REALLY both of, at least one");
        String cast = SIX_ROLES + "listener u 0 0 1;listener v 0 0 1;";
        D.due("of no REALLY", Dues.voice(cast).doubles(), 0);
        D.due("of one REALLY", Dues.voice(cast + "really u a;").doubles(), 0);
        D.due("of one each", Dues.voice(cast + "really u a;really v b;").doubles(), 0);
        D.due("of two with one ROLE", Dues.voice(cast + "really u a;really v a;").doubles(), 0);
        D.due("of one pair", Dues.voice(cast + "really u a;really u f;").doubles(), 1);
        D.due("of one pair by two", Dues.voice(cast + "really u e;really u f;really v f;really v e;").doubles(), 1);
        D.due("of all pairs", Dues.voice(cast + "really u a;really u b;really u c;really u d;really u e;really u f;").doubles(), 15);
        D.due("of three and three", Dues.voice(cast + "really u a;really u b;really u c;really v d;really v e;really v f;").doubles(), 6);
    }

    private static void faith() {
        D.sentence(29, "FAITH; NONE: no such n. (0 .. 30)");
        VoiceTonight x = underway();
        for (int n : NO_EVENINGS) {
            D.due("faith(" + n + ")", x.faith(n), -1);
        }
        D.due("faith(0): BELIEF now", x.faith(0), 149);
        D.due("faith(1)", x.faith(1), 149);
        x.turn(0, true);
        D.due("faith(1), ON", x.faith(1), 159);
        D.due("faith(30): one is ANNOUNCED", x.faith(30), 159);
    }

    private static void faithOfMost() {
        D.sentence(29, "BELIEF of all in n EVENINGS (with CRACKLE), together");
        String low = "role a 1 1;listener u 0 0 0;listener v 0 0 0;listener w 0 0 0;listener x 0 0 0;listener y 0 0 0;listener z 0 0 0;";
        VoiceTonight x = Dues.voice(low + "moves = 9999;");
        D.due("faith(30), nobody", x.faith(30), 0);
        x.announce(0);
        D.due("faith(0)", x.faith(0), 0);
        D.due("faith(1)", x.faith(1), 594);
        x = Dues.voice(low + "moves = 9999; crackle 100;");
        x.announce(0);
        D.due("faith(1), CRACKLE", x.faith(1), 0);
        x = Dues.voice(low.replace("0 0 0", "0 0 99") + "moves = 0 - 9999;");
        D.due("faith(0)", x.faith(0), 594);
        x.announce(0);
        D.due("faith(30)", x.faith(30), 0);
    }

    private static void never() {
        D.sentence(30, "NEVER (bits); NONE: no such LISTENER.");
        VoiceTonight x = Dues.voice("role a 15 1; role b 48 1; listener l 0 255 1; listener m 255 255 1; listener n 64 255 1; listener o 0 63 1; says = 0;");
        int[] due = {192, 0, 128, 0};
        for (int l = 0; l < 4; l++) {
            D.due("never(" + l + ")", x.never(l), due[l]);
        }
        for (int no : new int[] {-1, 4, 5, 6, 32, MAX, MIN}) {
            D.due("never(" + no + ")", x.never(no), -1);
        }
        D.due("never(0) of no ROLES", Dues.voice("listener l 0 255 1;").never(0), 255);
        D.due("never(0) of one that KNOWS all", Dues.voice("role a 255 1; listener l 0 255 1;").never(0), 0);
    }

    private static void apartOfNone() {
        D.sentence(31, "-2: none. NONE for others. (two ROLES that KNOW the same: none)");
        VoiceTonight x = Dues.voice(SIX_ROLES.replace("32", "1"));
        D.due("apart(0)", x.apart(0), -2);
        D.due("apart(1)", x.apart(1), -2);
        x = Dues.voice("role a 0 1; role b 0 9;");
        D.due("apart(0)", x.apart(0), -2);
        D.due("apart(1)", x.apart(1), -2);
        for (int what : NO_WHATS) {
            D.due("apart(" + what + ")", x.apart(what), -1);
            D.due("apart(" + what + ") of no ROLES", new VoiceTonight().apart(what), -1);
        }
    }

    private static void apartIs(String text, int size, int bits) {
        VoiceTonight x = Dues.voice(text);
        D.due("apart(0) of " + text, x.apart(0), size);
        D.due("apart(1) of " + text, x.apart(1), bits);
    }

    private static void apartOfSizes() {
        D.sentence(31, "the fewest FACTS (0 .. 8) .. of as many the least bits");
        apartIs("", 0, 0);
        apartIs("role a 255 1;", 0, 0);
        apartIs("role a 0 1;role b 128 1;", 1, 128);
        apartIs("role a 0 1;role b 255 1;", 1, 1);
        apartIs("role a 0 1;role b 3 1;role c 12 1;", 2, 5);
        apartIs("role a 0 1;role b 1 1;role c 2 1;role d 3 1;", 2, 3);
        apartIs("role a 0 1;role b 64 1;role c 128 1;role d 192 1;", 2, 192);
        apartIs(SIX_ROLES, 5, 31);
        apartIs("role a 4 1;role b 8 1;role c 16 1;role d 32 1;role e 64 1;role f 128 1;", 5, 124);
        apartIs("role a 0 1;role b 1 1;role c 2 1;role d 3 1;role e 4 1;role f 5 1;", 3, 7);
    }

    private static void unlike() {
        D.sentence(32, "NONE: no such ones, one and the same.");
        VoiceTonight x = Dues.voice("role a 0 1; role b 255 1; role c 255 2; role d 15 1; says = 0;");
        for (int no : new int[] {-1, 4, 5, 6, 32, MAX, MIN}) {
            D.due("unlike(0, " + no + ")", x.unlike(0, no), -1);
            D.due("unlike(" + no + ", 0)", x.unlike(no, 0), -1);
            D.due("unlike(" + no + ", " + no + ")", x.unlike(no, no), -1);
        }
        for (int r = 0; r < 4; r++) {
            D.due("unlike(" + r + ", " + r + ")", x.unlike(r, r), -1);
        }
        D.sentence(32, "UNLIKE of two ROLES: FACTS that one alone KNOWS (none, all)");
        D.due("unlike(0, 1)", x.unlike(0, 1), 255);
        D.due("unlike(1, 0)", x.unlike(1, 0), 255);
        D.due("unlike(1, 2): the same", x.unlike(1, 2), 0);
        D.due("unlike(3, 2)", x.unlike(3, 2), 240);
    }

    private static void rumourIs(String text, int two, int howMany) {
        VoiceTonight x = Dues.voice(text);
        D.due("rumour(0) of " + text, x.rumour(0), two);
        D.due("rumour(1) of " + text, x.rumour(1), howMany);
    }

    private static void rumourOfNone() {
        D.sentence(33, "-2: nobody knows more by any. NONE for others.");
        rumourIs("", -2, -2);
        rumourIs("listener l 255 0 1;", -2, -2);
        rumourIs("listener l 0 255 1; listener m 0 255 1;", -2, -2);
        rumourIs("listener u 9 0 1;listener v 9 0 1;listener w 9 0 1;listener x 9 0 1;listener y 9 0 1;listener z 9 0 1;", -2, -2);
        for (int what : NO_WHATS) {
            D.due("rumour(" + what + ")", underway().rumour(what), -1);
            D.due("rumour(" + what + ") of nobody", new VoiceTonight().rumour(what), -1);
        }
    }

    private static void rumourOfAlike() {
        D.sentence(33, "two LISTENERS who, talking now, have most FACTS more known, of both together, of alike ones the first");
        rumourIs("listener l 0 0 1; listener m 1 0 1;", 1, 1);
        rumourIs("listener l 0 0 1; listener m 255 0 1;", 1, 8);
        rumourIs("listener l 15 0 1; listener m 240 0 1;", 1, 8);
        rumourIs("listener l 1 0 1; listener m 1 0 1; listener n 3 0 1;", 2, 1);
        rumourIs("listener l 1 0 1; listener m 2 0 1; listener n 4 0 1;", 1, 2);
        rumourIs("listener l 1 0 1; listener m 3 0 1; listener n 12 0 1;", 12, 4);
        rumourIs("listener u 1 0 1;listener v 3 0 1;listener w 3 0 1;listener x 3 0 1;listener y 1 0 1;listener z 14 0 1;", 5, 4);
        rumourIs("listener u 7 0 1;listener v 7 0 1;listener w 7 0 1;listener x 7 0 1;listener y 3 0 1;listener z 15 0 1;", 45, 2);
    }

    private static void talks() {
        D.sentence(34, "TALKS; -2: not by three; NONE: no such LISTENER. (0 .. 3)");
        VoiceTonight x = Dues.voice("listener u 1 31 1;listener v 2 15 1;listener w 4 14 1;listener x 8 12 1;listener y 16 16 1;listener z 32 64 1;");
        int[] due = {-2, 3, 2, 1, 0, -2};
        for (int l = 0; l < 6; l++) {
            D.due("talks(" + l + ")", x.talks(l), due[l]);
        }
        for (int no : new int[] {-1, 6, 7, 32, MAX, MIN}) {
            D.due("talks(" + no + ")", x.talks(no), -1);
        }
        x.inform(0, 4);
        D.due("talks(0): by three", x.talks(0), 3);
        x.turn(1, false);
        x.turn(2, false);
        D.due("talks(0), sets OFF", x.talks(0), 3);
        D.due("talks(0) of one alone", Dues.voice("listener l 0 1 1;").talks(0), -2);
        D.due("talks(0) with nothing NEEDED", Dues.voice("listener l 0 0 1;").talks(0), 0);
    }

    // ---- promises 35 to 37

    private static void then() {
        D.sentence(35, "NONE: no such ones. (n 0 .. 30)");
        VoiceTonight x = underway();
        for (int no : NO_SUCH) {
            D.due("then(" + no + ", 1, 0)", x.then(no, 1, 0), -1);
            D.due("then(" + no + ", 1, 1)", x.then(no, 1, 1), -1);
        }
        for (int n : NO_EVENINGS) {
            D.due("then(0, " + n + ", 0)", x.then(0, n, 0), -1);
            D.due("then(0, " + n + ", 1)", x.then(0, n, 1), -1);
        }
        for (int what : NO_WHATS) {
            D.due("then(0, 1, " + what + ")", x.then(0, 1, what), -1);
        }
        D.sentence(35, "IN n EVENINGS (nobody ANNOUNCED but what is for this one)");
        D.due("then(1, 0, 0): now", x.then(1, 0, 0), 12);
        D.due("then(1, 0, 1): now", x.then(1, 0, 1), 99);
        D.due("then(1, 1, 0)", x.then(1, 1, 0), 15);
        D.due("then(1, 30, 0)", x.then(1, 30, 0), 15);
        D.due("then(0, 30, 0), OFF", x.then(0, 30, 0), 13);
        D.due("then(0, 30, 1), OFF", x.then(0, 30, 1), 50);
        x.turn(0, true);
        D.due("then(0, 30, 1): moved once", x.then(0, 30, 1), 60);
        x.evenings(1);
        D.due("then(0, 1, 1): nobody", x.then(0, 1, 1), 60);
    }

    private static void thenCrackles() {
        D.sentence(35, "(0 .. 30; with CRACKLE): FACTS known, BELIEF of a LISTENER");
        // the LOT of seed 0 in evening 0 is 49
        for (int crackle = 49; crackle <= 50; crackle++) {
            VoiceTonight x = Dues.voice("role a 255 1; listener l 0 1 0; moves = 99; crackle " + crackle + ";");
            x.announce(0);
            D.due("then(0, 1, 0) by " + crackle, x.then(0, 1, 0), crackle < 50 ? 255 : 0);
            D.due("then(0, 1, 1) by " + crackle, x.then(0, 1, 1), crackle < 50 ? 99 : 0);
        }
    }

    private static void quietIn() {
        D.sentence(36, "NONE: no such ones.");
        VoiceTonight x = underway();
        for (int no : NO_SUCH) {
            D.due("quietIn(" + no + ", 0)", x.quietIn(no, 0), -1);
        }
        for (int n : NO_EVENINGS) {
            D.due("quietIn(0, " + n + ")", x.quietIn(0, n), -1);
        }
        D.sentence(36, "IN n EVENINGS for how long a ROLE is QUIET (0 .. 30; with CRACKLE)");
        int[] due = {2, 1, 0, 0};
        for (int n = 0; n < due.length; n++) {
            D.due("quietIn(1, " + n + ")", x.quietIn(1, n), due[n]);
            D.due("quietIn(0, " + n + ")", x.quietIn(0, n), 0);
        }
        D.due("quietIn(1, 30)", x.quietIn(1, 30), 0);
        String ring = "role a 1 1; listener l 0 1 1; really l a; rings = 1; quiet 99;";
        x = Dues.voice(ring);
        D.due("quietIn(0, 30), nobody", x.quietIn(0, 30), 0);
        x.announce(0);
        D.due("quietIn(0, 0)", x.quietIn(0, 0), 0);
        D.due("quietIn(0, 1)", x.quietIn(0, 1), 99);
        D.due("quietIn(0, 30)", x.quietIn(0, 30), 70);
        x = Dues.voice(ring + "crackle 100;");
        x.announce(0);
        D.due("quietIn(0, 1), CRACKLE", x.quietIn(0, 1), 0);
    }

    private static void sureOfNone() {
        D.sentence(37, "SURE; NONE: no such ones.");
        VoiceTonight x = underway();
        for (int no : NO_SUCH) {
            D.due("sure(" + no + ", 0, 1, 1)", x.sure(no, 0, 1, 1), -1);
            D.due("sure(0, " + no + ", 1, 1)", x.sure(0, no, 1, 1), -1);
        }
        for (int n : NO_EVENINGS) {
            D.due("sure(0, 0, " + n + ", 1)", x.sure(0, 0, n, 1), -1);
        }
        for (int s : new int[] {0, -1, 21, 22, 32, MAX, MIN}) {
            D.due("sure(0, 0, 1, " + s + ")", x.sure(0, 0, 1, s), -1);
            D.due("sure(0, 0, 0, " + s + ")", x.sure(0, 0, 0, s), -1);
        }
        D.due("sure(1, 0, 0, 1): DONE now", x.sure(1, 0, 0, 1), 1);
        D.due("sure(1, 0, 30, 20)", x.sure(1, 0, 30, 20), 20);
        D.due("sure(0, 0, 30, 20): OFF", x.sure(0, 0, 30, 20), 0);
    }

    /** LOTs of 100 in evening 0 of the seeds 9999 on, worked out apart. */
    private static void sureOfSeeds() {
        D.sentence(37, "by s SEEDS (1 .. 20) from the text's SEED on: in how many of them");
        int[] lots = {31, 56, 12, 87, 89, 49, 13, 89, 32, 59, 83, 55, 93, 73, 15, 13, 46, 63, 18, 56};
        for (int crackle : new int[] {0, 31, 32, 56, 57, 93, 94, 100}) {
            VoiceTonight x = Dues.voice("role a 1 1; listener l 0 1 1; seed 9999; crackle " + crackle + ";");
            int due = 0;
            for (int s = 1; s <= 20; s++) {
                due += lots[s - 1] < crackle ? 0 : 1;
                D.due("sure(0, 0, 1, " + s + ") by crackle " + crackle, x.sure(0, 0, 1, s), due);
            }
            D.due("sure(0, 0, 0, 20)", x.sure(0, 0, 0, 20), 0);
        }
    }

    /** The LOT of seed 53 in evening 29 is 0, in each one ahead of it 7 or more. */
    private static void sureOfEvenings() {
        D.sentence(37, "behind a row of evenings in each of which a ROLE is ANNOUNCED, unless it is QUIET then (n 0 .. 30 evenings)");
        VoiceTonight x = Dues.voice("role a 1 1; listener l 0 1 1; says = times - 28;");
        D.due("sure(0, 0, 29, 20)", x.sure(0, 0, 29, 20), 0);
        D.due("sure(0, 0, 30, 20)", x.sure(0, 0, 30, 20), 20);
        x = Dues.voice("role a 1 1; listener l 0 1 1; says = times - 28; seed 53; crackle 1;");
        D.due("sure(0, 0, 30, 1): CRACKLE in the last one", x.sure(0, 0, 30, 1), 0);
        x = Dues.voice("role a 1 1; listener l 0 1 1; says = times - 27; seed 53; crackle 1;");
        D.due("sure(0, 0, 29, 1): none ahead of it", x.sure(0, 0, 29, 1), 1);
        String ring = "role a 1 1; listener l 0 1 1; really l a; rings = 1; says = times; quiet ";
        D.due("sure(0, 0, 30, 20), QUIET 28", Dues.voice(ring + "28;").sure(0, 0, 30, 20), 20);
        D.due("sure(0, 0, 29, 20), QUIET 28", Dues.voice(ring + "28;").sure(0, 0, 29, 20), 0);
        D.due("sure(0, 0, 30, 20), QUIET 29", Dues.voice(ring + "29;").sure(0, 0, 30, 20), 0);
        D.due("sure(0, 0, 30, 20), always CRACKLE", Dues.voice("role a 1 1; listener l 0 1 1; crackle 100;").sure(0, 0, 30, 20), 0);
    }

    private static void nothingHappens() {
        D.sentence(15, "What would be (nothing happens)");
        VoiceTonight x = underway();
        int[] before = Dues.all(x);
        int sum = x.tonight(0, 3) + x.tonight(9, 3) + x.best(1) + x.plan(0, -1) + x.plan(-1, 0) + x.plan(9, 9) + x.star(1) + x.credit(1)
                + x.missing(0) + x.holders(8) + x.rarest(9) + x.series(1, 30) + x.series(1, 31) + x.longOf(0, 0) + x.callers(1) + x.sway(1)
                + x.circle(0, 0) + x.doubles() + x.faith(30) + x.faith(31) + x.never(0) + x.apart(0) + x.unlike(0, 0) + x.rumour(0)
                + x.talks(0) + x.then(0, 30, 0) + x.quietIn(1, 30) + x.sure(0, 1, 30, 20) + x.who(0, 0) + x.ask(0);
        D.due("all is answered", sum != MIN, true);
        D.unchanged("what would be", x, before);
    }
}
