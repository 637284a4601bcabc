/** Promises 17, 23, 24, 29 and 35 to 37: rows of evenings to come. */
public final class RowsTest {
    private static final Dues D = new Dues();
    /** r says fact 0, then fact 1, then fact 2 ..; it is rung up each time. */
    private static final String SLOW = "role r 15 1; role s 128 1; listener l 0 3 50; really l r; rings = 1;"
            + "says = if which < 1 then 1 - (fact - times) * (fact - times) else 1; moves = 7 * (2 - fame - same);";

    public static void main(String[] args) {
        plan();
        planOfAll();
        planRoundQuiet();
        planNow();
        series();
        longOf();
        faith();
        then();
        quietIn();
        sure();
        D.end();
    }

    private static void planIs(VoiceTonight x, int listener, int... due) {
        D.due("plan(" + listener + ", -1)", x.plan(listener, -1), due.length);
        for (int i = 0; i < 4; i++) {
            D.due("plan(" + listener + ", " + i + ")", x.plan(listener, i), i < due.length ? due[i] : -1);
        }
    }

    private static void noPlan(VoiceTonight x, int listener) {
        for (int i = -1; i < 4; i++) {
            D.due("plan(" + listener + ", " + i + ")", x.plan(listener, i), -2);
        }
        D.due("plan(" + listener + ", 4)", x.plan(listener, 4), -1);
        D.due("plan(" + listener + ", -2)", x.plan(listener, -2), -1);
    }

    private static void plan() {
        VoiceTonight x = Dues.voice("role a 8 1; role b 3 1; role c 4 1; role d 7 1; role e 16 1; role f 32 1;"
                + "listener l 0 7 50; listener m 0 15 50; listener n 0 59 50; listener o 0 0 1; listener p 0 64 1; listener q 0 63 1;");
        planIs(x, 0, 3);
        planIs(x, 1, 0, 3);
        planIs(x, 2, 0, 1, 4, 5);
        planIs(x, 3);
        noPlan(x, 4);
        planIs(x, 5, 0, 3, 4, 5);
        D.due("plan(6, -1)", x.plan(6, -1), -1);
        D.due("plan(-2, -1)", x.plan(-2, -1), -1);
        D.due("plan(0, 4)", x.plan(0, 4), -1);
        D.due("plan(0, -2)", x.plan(0, -2), -1);
        x.turn(1, false);
        noPlan(x, 1);
        x = Dues.voice("role a 1 1; role b 2 1; role c 4 1; role d 8 1; role e 16 1; listener l 0 31 50;");
        noPlan(x, 0);
        x.inform(0, 3);
        planIs(x, 0, 0, 1, 2, 4);
    }

    private static void planOfAll() {
        VoiceTonight x = Dues.voice("role a 1 1; role b 2 1; listener l 0 1 50; listener m 0 2 50;");
        planIs(x, 0, 0);
        planIs(x, 1, 1);
        planIs(x, -1, 0, 1);
        x.inform(0, 0);
        planIs(x, -1, 1);
        x.inform(1, 1);
        planIs(x, -1);
        planIs(new VoiceTonight(), -1);
        x = Dues.voice("role a 1 1; role b 2 1; listener l 0 1 50; listener m 0 4 50;");
        noPlan(x, -1);
    }

    private static void planRoundQuiet() {
        noPlan(Dues.voice(SLOW), 0);
        planIs(Dues.voice(SLOW + "quiet 2;"), 0, 0, 1, 1, 0);
        planIs(Dues.voice(SLOW + "quiet 1;"), 0, 0, 1, 0);
        VoiceTonight x = Dues.voice(SLOW + "quiet 1;");
        x.turn(0, false);
        noPlan(x, 0);
        x = Dues.voice("role r 15 1; listener l 0 3 50; really l r; rings = 1; quiet 1; says = 1 - (fact - times) * (fact - times);");
        noPlan(x, 0);
    }

    private static void planNow() {
        VoiceTonight x = Dues.voice(SLOW + "quiet 2; crackle 100;");
        planIs(x, 0, 0, 1, 1, 0);
        x.announce(1);
        planIs(x, 0, 0, 1, 1, 0);
        x = Dues.voice(SLOW + "quiet 2;");
        x.announce(0);
        x.evenings(1);
        planIs(x, 0, 1, 1, 0);
        x.evenings(1);
        planIs(x, 0, 1, 0);
        x.evenings(1);
        planIs(x, 0, 0);
        x = Dues.voice("role a 1 1; role b 2 1; listener l 0 2 50; trusts = evening - 1; moves = 9;");
        planIs(x, 0, 0, 0, 1);
        x = Dues.voice("role a 1 1; role b 2 1; listener l 0 2 50; trusts = belief - 70; moves = 9 - fame * 0;");
        planIs(x, 0, 0, 0, 0, 1);
    }

    private static void series() {
        VoiceTonight x = Dues.voice(SLOW + "quiet 2; listener m 1 0 1; listener n 0 0 1; crackle 100;");
        x.turn(2, false);
        int[] due = {1, 1, 1, 3, 3, 3, 5, 5, 5, 7, 7};
        for (int n = 1; n <= due.length; n++) {
            D.due("series(0, " + n + ")", x.series(0, n), due[n - 1]);
        }
        D.due("series(0, 30)", x.series(0, 30), 7);
        D.due("series(1, 1)", x.series(1, 1), 2);
        D.due("series(0, 0)", x.series(0, 0), -1);
        D.due("series(0, 31)", x.series(0, 31), -1);
        D.due("series(0, -1)", x.series(0, -1), -1);
        D.due("series(2, 1)", x.series(2, 1), -1);
        D.due("series(-1, 1)", x.series(-1, 1), -1);
        x = Dues.voice(SLOW + "quiet 2;");
        x.announce(0);
        x.evenings(1);
        x.announce(1);
        D.due("series(0, 2), QUIET, another announced", x.series(0, 2), 0);
        D.due("series(0, 3)", x.series(0, 3), 1);
    }

    private static void longOf() {
        VoiceTonight x = Dues.voice(SLOW + "quiet 2; listener m 1 15 1; listener n 0 0 1; listener o 0 16 1; crackle 100;");
        D.due("longOf(0, 0)", x.longOf(0, 0), 4);
        D.due("longOf(1, 0)", x.longOf(1, 0), 10);
        D.due("longOf(2, 0)", x.longOf(2, 0), 0);
        D.due("longOf(3, 0)", x.longOf(3, 0), -2);
        D.due("longOf(0, 1)", x.longOf(0, 1), -2);
        D.due("longOf(4, 0)", x.longOf(4, 0), -1);
        D.due("longOf(-1, 0)", x.longOf(-1, 0), -1);
        D.due("longOf(0, 2)", x.longOf(0, 2), -1);
        D.due("longOf(0, -1)", x.longOf(0, -1), -1);
        x.turn(1, false);
        D.due("longOf(1, 0), OFF", x.longOf(1, 0), -2);
        x = Dues.voice("role r 1 1; listener l 0 1 1; says = times - 28;");
        D.due("longOf behind 30", x.longOf(0, 0), 30);
        x = Dues.voice("role r 1 1; listener l 0 1 1; says = times - 29;");
        D.due("longOf behind 31", x.longOf(0, 0), -2);
    }

    /** LOTs of seed 0: 49, 88, 83, 50 .. */
    private static void faith() {
        String cast = "role r 1 1; listener l 0 1 50; listener m 0 1 90; moves = 8; ";
        VoiceTonight x = Dues.voice(cast);
        D.due("faith(5), nobody", x.faith(5), 140);
        x.announce(0);
        D.due("faith(0)", x.faith(0), 140);
        D.due("faith(1)", x.faith(1), 156);
        D.due("faith(30)", x.faith(30), 156);
        D.due("faith(31)", x.faith(31), -1);
        D.due("faith(-1)", x.faith(-1), -1);
        x.turn(0, false);
        D.due("faith(1), OFF", x.faith(1), 148);
        x = Dues.voice(cast + "crackle 49;");
        x.announce(0);
        D.due("faith(1), CRACKLE 49", x.faith(1), 156);
        x = Dues.voice(cast + "crackle 50;");
        x.announce(0);
        D.due("faith(1), CRACKLE 50", x.faith(1), 140);
    }

    private static void then() {
        VoiceTonight x = Dues.voice("role r 5 1; listener l 2 1 50; listener m 0 1 90; moves = 8 - 20 * which; trusts = 1 - which;");
        D.due("then(0, 1, 0), nobody", x.then(0, 1, 0), 2);
        D.due("then(0, 1, 1), nobody", x.then(0, 1, 1), 50);
        x.announce(0);
        D.due("then(0, 0, 0)", x.then(0, 0, 0), 2);
        D.due("then(0, 1, 0)", x.then(0, 1, 0), 7);
        D.due("then(0, 1, 1)", x.then(0, 1, 1), 58);
        D.due("then(0, 30, 1)", x.then(0, 30, 1), 58);
        D.due("then(1, 2, 0)", x.then(1, 2, 0), 0);
        D.due("then(1, 2, 1)", x.then(1, 2, 1), 78);
        D.due("then(2, 1, 0)", x.then(2, 1, 0), -1);
        D.due("then(-1, 1, 0)", x.then(-1, 1, 0), -1);
        D.due("then(0, 31, 0)", x.then(0, 31, 0), -1);
        D.due("then(0, -1, 0)", x.then(0, -1, 0), -1);
        D.due("then(0, 1, 2)", x.then(0, 1, 2), -1);
        D.due("then(0, 1, -1)", x.then(0, 1, -1), -1);
        x = Dues.voice("role r 5 1; listener l 2 1 50; crackle 50;");
        x.announce(0);
        D.due("then(0, 1, 0), CRACKLE", x.then(0, 1, 0), 2);
    }

    private static void quietIn() {
        VoiceTonight x = Dues.voice(SLOW + "quiet 4;");
        D.due("quietIn(0, 1), nobody", x.quietIn(0, 1), 0);
        x.announce(0);
        int[] due = {0, 4, 3, 2, 1, 0, 0};
        for (int n = 0; n < due.length; n++) {
            D.due("quietIn(0, " + n + ")", x.quietIn(0, n), due[n]);
            D.due("quietIn(1, " + n + ")", x.quietIn(1, n), 0);
        }
        D.due("quietIn(0, 30)", x.quietIn(0, 30), 0);
        D.due("quietIn(0, 31)", x.quietIn(0, 31), -1);
        D.due("quietIn(0, -1)", x.quietIn(0, -1), -1);
        D.due("quietIn(2, 1)", x.quietIn(2, 1), -1);
        D.due("quietIn(-1, 1)", x.quietIn(-1, 1), -1);
        x.evenings(2);
        D.due("quietIn(0, 0)", x.quietIn(0, 0), 3);
        x = Dues.voice(SLOW + "quiet 4; crackle 50;");
        x.announce(0);
        D.due("quietIn(0, 1), CRACKLE", x.quietIn(0, 1), 0);
    }

    /** LOTs of the seeds 40 .. 45 in evening 0: 69 67 18 14 48 95, in evening 1: 60 87 73 70 33 46. */
    private static void sure() {
        String cast = "role r 1 1; listener l 0 1 50; listener m 1 1 50; seed 40; crackle 50; ";
        VoiceTonight x = Dues.voice(cast);
        int[] first = {1, 2, 2, 2, 2, 3};
        for (int s = 1; s <= 6; s++) {
            D.due("sure(0, 0, 1, " + s + ")", x.sure(0, 0, 1, s), first[s - 1]);
            D.due("sure(0, 0, 0, " + s + ")", x.sure(0, 0, 0, s), 0);
            D.due("sure(1, 0, 0, " + s + ")", x.sure(1, 0, 0, s), s);
        }
        D.due("sure(0, 0, 2, 6)", x.sure(0, 0, 2, 6), 5);
        x.evenings(1);
        D.due("sure(0, 0, 1, 6), an evening on", x.sure(0, 0, 1, 6), 4);
        D.due("sure(0, 0, 30, 20)", x.sure(0, 0, 30, 20), 20);
        D.due("sure(0, 0, 31, 20)", x.sure(0, 0, 31, 20), -1);
        D.due("sure(0, 0, -1, 20)", x.sure(0, 0, -1, 20), -1);
        D.due("sure(0, 0, 1, 21)", x.sure(0, 0, 1, 21), -1);
        D.due("sure(0, 0, 1, 0)", x.sure(0, 0, 1, 0), -1);
        D.due("sure(2, 0, 1, 1)", x.sure(2, 0, 1, 1), -1);
        D.due("sure(-1, 0, 1, 1)", x.sure(-1, 0, 1, 1), -1);
        D.due("sure(0, 1, 1, 1)", x.sure(0, 1, 1, 1), -1);
        D.due("sure(0, -1, 1, 1)", x.sure(0, -1, 1, 1), -1);
        x = Dues.voice(SLOW + "quiet 2; seed 9999;");
        D.due("sure(0, 0, 3, 20), round QUIET", x.sure(0, 0, 3, 20), 0);
        D.due("sure(0, 0, 4, 20), seeds above 9999", x.sure(0, 0, 4, 20), 20);
    }
}
