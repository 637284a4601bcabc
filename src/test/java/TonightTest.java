/** Promises 15, 16, 18, 19, 25, 26 and 38 to 42: what would be this evening, and who it was. */
public final class TonightTest {
    private static final Dues D = new Dues();
    private static final String THREE = "role low 15 1; role mid 48 4; role top 192 8; listener ann 1 15 50; listener ben 16 240 30;"
            + "listener cat 0 0 90; really cat top; really ben mid; trusts = belief - fame * 8 - 10; moves = 12 - fame * 3; rings = fame - 5;";

    public static void main(String[] args) {
        tonight();
        nothingHappens();
        quietOnes();
        best();
        star();
        credit();
        callers();
        sway();
        telling();
        who();
        ask();
        D.end();
    }

    private static void row(VoiceTonight x, int role, int... due) {
        for (int what = 0; what < due.length; what++) {
            D.due("tonight(" + role + ", " + what + ")", x.tonight(role, what), due[what]);
        }
    }

    /** TRUSTS tells: ann 32, 8, -24; ben 12, -12, -44; cat 72, 48, 16 of low, mid, top. */
    private static void tonight() {
        VoiceTonight x = Dues.voice(THREE);
        row(x, 0, 15, 7, 5, 3 + 4 + 4, -1);
        row(x, 1, 48, 5, 4, 4);
        row(x, 2, 192, 4, 4, 2);
        row(x, 3, -1, -1, -1, -1);
        row(x, -1, -1, -1, -1, -1);
        D.due("tonight(0, -1)", x.tonight(0, -1), -1);
        x.turn(0, false);
        row(x, 0, 15, 6, 4, 8);
        row(x, 1, 48, 4, 4, 2);
        x = Dues.voice("role r 7 1; listener l 0 1 50; crackle 100; says = fact;");
        row(x, 0, 6, 1, 0, 2);
    }

    private static void nothingHappens() {
        VoiceTonight x = Dues.voice(THREE);
        x.announce(1);
        int[] asked = {x.tonight(0, 3), x.best(0), x.star(0), x.sway(1), x.callers(2), x.faith(9), x.then(1, 9, 0), x.quietIn(1, 9),
            x.sure(0, 0, 9, 9), x.series(0, 9), x.longOf(0, 0), x.plan(1, -1), x.plan(-1, -1), x.talks(1), x.rumour(0), x.who(0, 0), x.ask(0)};
        for (int answer : asked) {
            D.due("an answer is there", answer >= -2, true);
        }
        for (int i = 0; i < 3; i++) {
            D.due("HEARD", x.role(i, 2), 0);
            D.due("QUIET", x.role(i, 3), 0);
            D.due("BELIEF", x.listener(i, 2), new int[] {50, 30, 90}[i]);
            D.due("known", x.listener(i, 0), new int[] {1, 16, 0}[i]);
        }
        D.due("evening", x.count(2), 0);
        D.due("announced", x.count(3), 1);
        D.due("can be undone", x.count(9), 1);
        D.due("facts known", x.count(7), 2);
    }

    private static void quietOnes() {
        VoiceTonight x = Dues.voice(THREE);
        x.announce(2);
        x.evenings(1);
        D.due("top is QUIET", x.count(4), 4);
        // BELIEF is 38, 18, 78 now: cat alone trusts top by 4
        row(x, 2, 192, 4, 4, 0);
        D.due("callers(2), QUIET", x.callers(2), 4);
        D.due("sway(2), QUIET", x.sway(2), -12 - 12 - 12);
        D.due("credit(2)", x.credit(2), 7);
    }

    private static void best() {
        VoiceTonight x = Dues.voice(THREE);
        D.due("best(0)", x.best(0), 0);
        D.due("best(1)", x.best(1), 11);
        D.due("best(2)", x.best(2), -1);
        D.due("best(-1)", x.best(-1), -1);
        x = Dues.voice("role a 1 1; role b 6 1; role c 24 1; listener l 0 31 9; really l b; rings = 1;");
        D.due("best(0) of alike ones", x.best(0), 1);
        D.due("best(1)", x.best(1), 2);
        x.announce(1);
        x.evenings(1);
        D.due("best(0), b being QUIET", x.best(0), 2);
        x.announce(2);
        x.evenings(1);
        D.due("best(0)", x.best(0), 0);
        x.announce(0);
        x.evenings(1);
        D.due("best(0) of none", x.best(0), 0);
        D.due("best(1) of none", x.best(1), 0);
        x = Dues.voice("role b 6 1; listener l 0 31 9; really l b; rings = 1;");
        x.announce(0);
        x.evenings(1);
        D.due("best(0), all QUIET", x.best(0), -2);
        D.due("best(1), all QUIET", x.best(1), -2);
        D.due("best(2), all QUIET", x.best(2), -1);
        x = Dues.voice("role a 1 1;");
        D.due("best(0) without LISTENERS", x.best(0), 0);
        D.due("best(1) without LISTENERS", x.best(1), 0);
    }

    private static void star() {
        VoiceTonight x = Dues.voice(THREE);
        D.due("star(0)", x.star(0), 0);
        D.due("star(1)", x.star(1), 3);
        D.due("star(2)", x.star(2), -1);
        D.due("star(-1)", x.star(-1), -1);
        x.turn(1, false);
        D.due("star(0), ben OFF", x.star(0), 0);
        D.due("star(1), ben OFF", x.star(1), 2);
        x = Dues.voice("role a 1 1; role b 1 3; role c 1 3; listener l 1 1 1; really l b; trusts = fame - 2; rings = 1;");
        D.due("star(0)", x.star(0), 1);
        x.announce(1);
        x.evenings(1);
        D.due("star(0), QUIET or not", x.star(0), 1);
        x.turn(0, false);
        D.due("star(0), all OFF", x.star(0), 0);
        D.due("star(1), all OFF", x.star(1), 0);
        x = Dues.voice("listener l 1 1 1;");
        D.due("star(0) of no ROLES", x.star(0), -2);
        D.due("star(1) of no ROLES", x.star(1), -2);
        D.due("star(2) of no ROLES", x.star(2), -1);
    }

    private static void credit() {
        VoiceTonight x = Dues.voice(THREE);
        D.due("credit(0)", x.credit(0), 3);
        D.due("credit(1)", x.credit(1), 1);
        D.due("credit(2)", x.credit(2), 7);
        D.due("credit(3)", x.credit(3), -1);
        D.due("credit(-1)", x.credit(-1), -1);
        x.turn(0, false);
        D.due("credit(0), OFF", x.credit(0), 3);
    }

    private static void callers() {
        VoiceTonight x = Dues.voice(THREE);
        D.due("callers(0)", x.callers(0), 0);
        D.due("callers(1), not ringing", x.callers(1), 0);
        D.due("callers(2)", x.callers(2), 4);
        D.due("callers(3)", x.callers(3), -1);
        D.due("callers(-1)", x.callers(-1), -1);
        x.turn(2, false);
        D.due("callers(2), OFF", x.callers(2), 0);
    }

    private static void sway() {
        VoiceTonight x = Dues.voice(THREE);
        D.due("sway(0)", x.sway(0), 27);
        D.due("sway(1)", x.sway(1), 0);
        D.due("sway(2)", x.sway(2), -36);
        D.due("sway(3)", x.sway(3), -100000);
        D.due("sway(-1)", x.sway(-1), -100000);
        x.turn(2, false);
        x.turn(0, false);
        D.due("sway(2), ben alone", x.sway(2), -12);
        x = Dues.voice("role r 1 1; listener l 1 1 95; listener m 1 1 3; moves = if which < 1 then 50 else 0 - 50;");
        D.due("sway(0), held", x.sway(0), 1);
    }

    private static void telling() {
        VoiceTonight x = Dues.voice(THREE);
        D.due("tellFact(-1)", x.tellFact(-1, true), -1);
        D.due("tellFact(8)", x.tellFact(8, true), -1);
        D.due("tellDone(-1)", x.tellDone(-1, true), -1);
        D.due("tellDone(3)", x.tellDone(3, true), -1);
        D.due("count(10)", x.count(10), 0);
        for (int i = 0; i < 20; i++) {
            D.due("number " + i, i % 2 == 0 ? x.tellFact(7, true) : x.tellDone(2, true), i);
        }
        D.due("tellFact of 21", x.tellFact(0, true), -1);
        D.due("tellDone of 21", x.tellDone(0, true), -1);
        D.due("count(10)", x.count(10), 20);
        D.due("who(20, 1)", x.who(20, 1), 4);
        D.due("who(21, 1)", x.who(21, 1), -1);
        D.due("count(9): no thing done", x.count(9), 0);
        D.due("forget()", x.forget(), 20);
        D.due("forget()", x.forget(), 0);
        D.due("tellFact anew", x.tellFact(0, true), 0);
    }

    private static void who() {
        VoiceTonight x = Dues.voice(THREE);
        D.due("who(0, 0)", x.who(0, 0), 3);
        D.due("who(0, 1)", x.who(0, 1), 7);
        D.due("who(1, 0)", x.who(1, 0), -1);
        D.due("who(-1, 0)", x.who(-1, 0), -1);
        D.due("who(0, 2)", x.who(0, 2), -1);
        D.due("who(0, -1)", x.who(0, -1), -1);
        x.tellFact(0, false);
        x.tellDone(2, true);
        x.tellDone(0, false);
        x.tellFact(5, true);
        x.tellFact(4, false);
        int[] due = {7, 6, 6, 6, 2, 0};
        for (int k = 0; k < due.length; k++) {
            D.due("who(" + k + ", 1)", x.who(k, 1), due[k]);
            D.due("who(" + k + ", 0)", x.who(k, 0), Integer.bitCount(due[k]));
        }
        x.forget();
        x.tellDone(0, true);
        D.due("who by DONE", x.who(1, 1), 1);
        x.turn(0, false);
        D.due("who by DONE, as it is now", x.who(1, 1), 0);
        x = Dues.voice("role r 1 1; listener l 0 1 1; really l r; rings = 1; says = 1 - times;");
        x.tellFact(0, true);
        D.due("who(1, 1)", x.who(1, 1), 1);
        x.announce(0);
        x.evenings(1);
        D.due("who(1, 1), no more SAID", x.who(1, 1), 0);
        D.due("who(0, 1), QUIET", x.who(0, 1), 1);
    }

    private static void ask() {
        VoiceTonight x = Dues.voice("role a 15 1; role b 51 1; role c 85 1; role d 2 1; listener l 0 2 1;");
        // fact 0: a b c | d; fact 1: a b d | c; fact 2: a c | b d
        D.due("ask(0)", x.ask(0), 2);
        D.due("ask(1)", x.ask(1), -1);
        D.due("ask(-1)", x.ask(-1), -1);
        x.tellFact(2, true);
        D.due("ask(1)", x.ask(1), 1);
        x.tellFact(1, false);
        D.due("ask(2): c alone, fact 0", x.ask(2), 0);
        x.tellDone(0, true);
        D.due("ask(3): none is left", x.ask(3), -2);
        D.due("ask(0) again", x.ask(0), 2);
        D.due("ask of no ROLES", new VoiceTonight().ask(0), -2);
    }
}
