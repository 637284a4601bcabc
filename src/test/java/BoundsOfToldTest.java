/** Boundary cases of promises 38 to 42: what is TOLD, who it was, what to ask next. */
public final class BoundsOfToldTest {
    private static final Dues D = new Dues();
    private static final int MIN = Integer.MIN_VALUE;
    private static final int MAX = Integer.MAX_VALUE;
    private static final String SIX_ROLES = "role a 1 1;role b 2 1;role c 4 1;role d 8 1;role e 16 1;role f 32 1;";
    private static final String TWO = "role a 3 2; role b 12 7; listener l 1 7 40; listener m 8 12 90; really m b; rings = 1;";

    public static void main(String[] args) {
        tellFactOfNone();
        tellFactOfAll();
        tellFactIsFull();
        tellDoneOfNone();
        tellDoneOfAll();
        mostTold();
        forget();
        toldGoesOn();
        whoOfNone();
        whoOfSome();
        whoOfQuiet();
        whoByDone();
        whoOfTwoThatCannotBe();
        askOfNone();
        askOfNobodyLeft();
        askOfAlike();
        askByWhatIsSaid();
        D.endOf(38, 39, 40, 41, 42);
    }

    // ---- promises 38 to 40

    private static void tellFactOfNone() {
        D.sentence(38, "NONE, and nothing happens: 20 are there, no such FACT.");
        VoiceTonight x = Dues.voice(TWO);
        x.tellFact(0, true);
        int[] before = Dues.all(x);
        for (int fact : new int[] {-1, 8, 9, 31, 32, 33, MAX, MIN}) {
            D.due("tellFact(" + fact + ", true)", x.tellFact(fact, true), -1);
            D.due("tellFact(" + fact + ", false)", x.tellFact(fact, false), -1);
        }
        D.unchanged("tellFact", x, before);
        D.due("the next number", x.tellFact(0, true), 1);
        D.due("who by both", x.who(2, 1), 1);
        D.due("tellFact of a new object", new VoiceTonight().tellFact(7, true), 0);
        D.due("tellFact(8) of a new object", new VoiceTonight().tellFact(8, true), -1);
    }

    private static void tellFactOfAll() {
        D.sentence(38, "It is TOLD that a FACT was SAID, or not: its number (FACTS 0 .. 7)");
        VoiceTonight x = Dues.voice(SIX_ROLES.replace("32", "128"));
        for (int fact = 0; fact < 8; fact++) {
            D.due("tellFact(" + fact + ", true)", x.tellFact(fact, true), 0);
            D.due("who SAID it", x.who(1, 1), fact < 5 ? 1 << fact : fact == 7 ? 32 : 0);
            x.forget();
            D.due("tellFact(" + fact + ", false)", x.tellFact(fact, false), 0);
            D.due("who did not", x.who(1, 1), 63 - (fact < 5 ? 1 << fact : fact == 7 ? 32 : 0));
            x.forget();
        }
    }

    private static void tellFactIsFull() {
        D.sentence(38, "NONE, and nothing happens: 20 are there");
        VoiceTonight x = Dues.voice(TWO);
        for (int i = 0; i < 20; i++) {
            D.due("tellFact " + i, x.tellFact(0, true), i);
        }
        for (int fact = -1; fact <= 8; fact++) {
            D.due("tellFact(" + fact + ", false), a 21st", x.tellFact(fact, false), -1);
        }
        D.due("count(10)", x.count(10), 20);
        D.due("who(19, 1)", x.who(19, 1), 1);
        D.due("who(20, 1)", x.who(20, 1), 1);
        x.evenings(1);
        D.due("tellFact, an evening on", x.tellFact(0, true), -1);
    }

    private static void tellDoneOfNone() {
        D.sentence(39, "likewise: NONE, and nothing happens: 20 are there, no such LISTENER");
        VoiceTonight x = Dues.voice(TWO);
        x.tellDone(0, false);
        int[] before = Dues.all(x);
        for (int no : new int[] {-1, 2, 5, 6, 32, MAX, MIN}) {
            D.due("tellDone(" + no + ", true)", x.tellDone(no, true), -1);
            D.due("tellDone(" + no + ", false)", x.tellDone(no, false), -1);
        }
        D.unchanged("tellDone", x, before);
        D.due("the next number", x.tellDone(1, true), 1);
        D.due("tellDone(0) of no LISTENERS", Dues.voice(SIX_ROLES).tellDone(0, true), -1);
        x = Dues.voice("listener u 0 0 1;listener v 0 0 1;listener w 0 0 1;listener x 0 0 1;listener y 0 0 1;listener z 0 0 1;");
        D.due("tellDone(5) of six", x.tellDone(5, true), 0);
        D.due("tellDone(6) of six", x.tellDone(6, true), -1);
    }

    private static void tellDoneOfAll() {
        D.sentence(39, "It is TOLD that a LISTENER would have DONE it, or not");
        VoiceTonight x = Dues.voice(SIX_ROLES
                + "listener u 0 1 1;listener v 0 2 1;listener w 0 4 1;listener x 0 8 1;listener y 0 0 1;listener z 0 32 1;");
        int[] done = {1, 2, 4, 8, 63, 32};
        for (int l = 0; l < 6; l++) {
            x.tellDone(l, true);
            D.due("who, " + l + " having DONE it", x.who(1, 1), done[l]);
            x.forget();
            x.tellDone(l, false);
            D.due("who, " + l + " not having DONE it", x.who(1, 1), 63 - done[l]);
            x.forget();
        }
    }

    private static void mostTold() {
        D.sentence(39, "20 at most, numbered from 0 on");
        VoiceTonight x = Dues.voice(TWO);
        for (int i = 0; i < 20; i++) {
            D.due("number " + i, i % 3 == 0 ? x.tellFact(i % 8, false) : x.tellDone(i % 2, true), i);
        }
        int[] before = Dues.all(x);
        int who = x.who(20, 1);
        for (int i = 0; i < 3; i++) {
            D.due("a 21st tellFact", x.tellFact(0, true), -1);
            D.due("a 21st tellDone", x.tellDone(0, true), -1);
            D.due("a 21st tellFact(8)", x.tellFact(8, true), -1);
        }
        D.unchanged("a 21st one", x, before);
        D.due("who(20, 1)", x.who(20, 1), who);
        D.due("who(21, 1)", x.who(21, 1), -1);
        D.due("ask(21)", x.ask(21), -1);
        x.forget();
        D.due("tellFact anew", x.tellFact(0, true), 0);
    }

    private static void forget() {
        D.sentence(40, "All that was TOLD is forgotten: how many there were.");
        VoiceTonight x = new VoiceTonight();
        D.due("forget() of none", x.forget(), 0);
        x.tellFact(0, true);
        D.due("forget() of one", x.forget(), 1);
        D.due("forget() again", x.forget(), 0);
        D.due("who(1, 0)", x.who(1, 0), -1);
        D.due("who(0, 0)", x.who(0, 0), 0);
        for (int i = 0; i < 25; i++) {
            x.tellFact(i % 8, true);
        }
        D.due("forget() of 20", x.forget(), 20);
        D.due("count(10)", x.count(10), 0);
        x = Dues.voice(TWO);
        x.tellFact(0, true);
        D.due("who(1, 1)", x.who(1, 1), 1);
        x.forget();
        x.tellFact(2, true);
        D.due("who(1, 1) of what is TOLD anew", x.who(1, 1), 2);
    }

    private static void toldGoesOn() {
        D.sentence(40, "nothing is TOLD (by a text alone: what is done, undone, held stays TOLD)");
        VoiceTonight x = Dues.voice(TWO);
        x.hold(0);
        x.tellFact(0, true);
        x.tellDone(1, false);
        x.evenings(1);
        x.undo();
        x.restore(0);
        D.due("forget() behind evenings, undo, restore", x.forget(), 2);
        x.tellFact(0, true);
        Dues.put(x, "#");
        x.read();
        D.due("forget() behind a FAULT", x.forget(), 1);
        x.tellFact(0, true);
        x.read();
        D.due("forget() behind a text", x.forget(), 0);
    }

    // ---- promise 41

    private static void whoOfNone() {
        D.sentence(41, "NONE: no such ones. (KNOWN by k: the first k)");
        VoiceTonight x = Dues.voice(TWO);
        D.due("who(1, 0) of nothing TOLD", x.who(1, 0), -1);
        x.tellFact(0, true);
        x.tellFact(2, true);
        for (int k : new int[] {-1, 3, 4, 20, 21, 32, MAX, MIN}) {
            D.due("who(" + k + ", 0)", x.who(k, 0), -1);
            D.due("who(" + k + ", 1)", x.who(k, 1), -1);
        }
        for (int what : new int[] {-1, 2, 3, 32, MAX, MIN}) {
            D.due("who(0, " + what + ")", x.who(0, what), -1);
            D.due("who(2, " + what + ")", x.who(2, what), -1);
        }
        int[] due = {3, 1, 0};
        for (int k = 0; k <= 2; k++) {
            D.due("who(" + k + ", 1)", x.who(k, 1), due[k]);
            D.due("who(" + k + ", 0)", x.who(k, 0), Integer.bitCount(due[k]));
        }
    }

    private static void whoOfSome() {
        D.sentence(41, "WHO: ROLES of which, ANNOUNCED now, all that is KNOWN is so: how many; which (bits) (none, all)");
        VoiceTonight x = Dues.voice(SIX_ROLES);
        D.due("who(0, 0)", x.who(0, 0), 6);
        D.due("who(0, 1)", x.who(0, 1), 63);
        for (int fact = 0; fact < 6; fact++) {
            x.tellFact(fact, false);
            D.due("who(k, 0)", x.who(fact + 1, 0), 5 - fact);
            D.due("who(k, 1)", x.who(fact + 1, 1), 63 - ((2 << fact) - 1));
        }
        x = Dues.voice("listener l 0 1 1;");
        x.tellDone(0, false);
        D.due("who(1, 0) of no ROLES", x.who(1, 0), 0);
        D.due("who(1, 1) of no ROLES", x.who(1, 1), 0);
        x = Dues.voice(SIX_ROLES + "says = 0;");
        x.tellFact(0, false);
        x.tellFact(0, true);
        D.due("who(1, 1), nothing SAID", x.who(1, 1), 63);
        D.due("who(2, 1), nothing SAID", x.who(2, 1), 0);
    }

    private static void whoOfQuiet() {
        D.sentence(41, "ROLES (QUIET or not)");
        VoiceTonight x = Dues.voice(TWO + "crackle 0;");
        x.announce(1);
        x.evenings(1);
        x.tellFact(2, true);
        D.due("b is QUIET", x.count(4), 2);
        D.due("who(0, 1)", x.who(0, 1), 3);
        D.due("who(1, 1)", x.who(1, 1), 2);
        x = Dues.voice(TWO + "crackle 100;");
        x.tellFact(2, true);
        D.due("who(1, 1), CRACKLE", x.who(1, 1), 2);
        x.announce(0);
        D.due("who(1, 1), another one ANNOUNCED", x.who(1, 1), 2);
    }

    private static void whoByDone() {
        D.sentence(41, "that a LISTENER would have DONE it behind it, or not");
        VoiceTonight x = Dues.voice(TWO);
        x.tellDone(0, true);
        D.due("who(1, 1): none brings 7 to l", x.who(1, 1), 0);
        x.inform(0, 2);
        D.due("who(1, 1): a does now", x.who(1, 1), 1);
        x.turn(0, false);
        D.due("who(1, 1): OFF", x.who(1, 1), 0);
        x.inform(0, 1);
        D.due("who(1, 1): DONE already", x.who(1, 1), 3);
    }

    private static void whoOfTwoThatCannotBe() {
        D.sentence(41, "all that is KNOWN is so (told so and not so, told twice)");
        VoiceTonight x = Dues.voice(TWO);
        x.tellFact(0, true);
        x.tellFact(0, true);
        x.tellFact(0, false);
        D.due("who(1, 1)", x.who(1, 1), 1);
        D.due("who(2, 1), the same twice", x.who(2, 1), 1);
        D.due("who(3, 0)", x.who(3, 0), 0);
        D.due("who(3, 1)", x.who(3, 1), 0);
        D.due("ask(3)", x.ask(3), -2);
        D.due("who(2, 1) all the same", x.who(2, 1), 1);
    }

    // ---- promise 42

    private static void askOfNone() {
        D.sentence(42, "NONE: no such k.");
        VoiceTonight x = Dues.voice(TWO);
        x.tellFact(0, true);
        for (int k : new int[] {-1, 2, 3, 20, 21, 32, MAX, MIN}) {
            D.due("ask(" + k + ")", x.ask(k), -1);
            D.due("ask(" + k + ") of a new object", new VoiceTonight().ask(k), -1);
        }
        D.due("ask(1) of a new object", new VoiceTonight().ask(1), -1);
        D.due("ask(0)", x.ask(0), 0);
        D.due("ask(1)", x.ask(1), 0);
    }

    private static void askOfNobodyLeft() {
        D.sentence(42, "-2: none is left");
        D.due("ask(0) of no ROLES", new VoiceTonight().ask(0), -2);
        D.due("ask(0) of LISTENERS alone", Dues.voice("listener l 0 0 1;").ask(0), -2);
        VoiceTonight x = Dues.voice(TWO);
        x.tellFact(7, true);
        D.due("ask(1)", x.ask(1), -2);
        D.due("ask(0)", x.ask(0), 0);
        x.forget();
        x.tellFact(7, false);
        D.due("ask(1) of all left", x.ask(1), 0);
    }

    private static void askOfAlike() {
        D.sentence(42, "fewest ROLES are left, at worst; of alike ones the first");
        VoiceTonight x = Dues.voice("role a 1 1;");
        D.due("ask(0) of one ROLE", x.ask(0), 0);
        x = Dues.voice("role a 128 1;role b 0 1;");
        D.due("ask(0): fact 7", x.ask(0), 7);
        x = Dues.voice("role a 3 1;role b 3 1;");
        D.due("ask(0) of two alike", x.ask(0), 0);
        D.due("ask(0) of six: one off by each", Dues.voice(SIX_ROLES).ask(0), 0);
        x = Dues.voice("role a 1 1;role b 3 1;role c 7 1;role d 15 1;role e 31 1;role f 63 1;");
        D.due("ask(0): the half, fact 3", x.ask(0), 3);
        x.tellFact(3, false);
        D.due("ask(1) of a, b, c: fact 1 leaves two, fact 2 too", x.ask(1), 1);
        x.tellFact(1, false);
        D.due("ask(2) of a alone", x.ask(2), 0);
        D.due("ask(0) again", x.ask(0), 3);
    }

    private static void askByWhatIsSaid() {
        D.sentence(42, "once it is told whether it was SAID (not KNOWN only)");
        VoiceTonight x = Dues.voice("role a 1 1;role b 2 1;role c 3 1;role d 128 1; says = fact;");
        D.due("ask(0): fact 0 is SAID by none", x.ask(0), 1);
        x = Dues.voice("role a 1 1;role b 2 1; says = 0;");
        D.due("ask(0), nothing SAID", x.ask(0), 0);
        x = Dues.voice("role a 1 1;role b 2 1; listener l 0 1 1; really l a; rings = 1; says = 1 - times;");
        x.announce(0);
        x.evenings(1);
        D.due("ask(0), a SAYS nothing more, and is QUIET", x.ask(0), 1);
    }
}
