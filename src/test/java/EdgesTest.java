/** Edges across promises: full rows of six, LAWS that tell just 0 or 1, texts read one behind the other. */
public final class EdgesTest {
    private static final Dues D = new Dues();
    private static final String RICH = "role r 3 1; role s 9 9; listener l 1 3 50; listener m 2 3 40; really l r; really m s; says = 0;"
            + "trusts = 0; moves = 9; rings = 1; crackle 100; seed 5; quiet 9;";
    private static final String PLAIN = "role z 7 1; listener q 1 1 1; really q z;";
    private static final String SIX = "role a 1 1;role b 2 1;role c 4 1;role d 8 1;role e 16 1;role f 32 1;"
            + "listener u 1 1 10;listener v 2 2 20;listener w 4 4 30;listener x 8 8 40;listener y 16 16 50;listener z 32 32 60;"
            + "really u a;really v b;really w c;really x d;really y e;really z f; rings = 1; trusts = 1 - same; moves = which; quiet 1;";

    public static void main(String[] args) {
        behindOneAnother();
        behindFaults();
        names();
        six();
        sixWholly();
        justZero();
        justQuiet();
        leftOvers();
        longLaws();
        longLawsAgain();
        D.end();
    }

    private static void isPlain(VoiceTonight x) {
        int[] due = {1, 1, 0, -2, 0, 1, 1, 1, 0, 0, 0, 0, 0, 0, 0, 1, 1, 1};
        for (int what = 0; what < due.length; what++) {
            D.due("count(" + what + ") of the plain text", x.count(what), due[what]);
        }
        D.due("role(0, 2)", x.role(0, 2), 0);
        D.due("role(0, 3)", x.role(0, 3), 0);
        D.due("role(0, 5)", x.role(0, 5), 7);
        D.due("listener(0, 5)", x.listener(0, 5), 1);
        D.due("TRUSTS", x.tells(0, 0, 0), 1);
        D.due("MOVES", x.tells(0, 0, 1), 0);
        D.due("RINGS", x.tells(0, 0, 2), 0);
        D.due("undo()", x.undo(), false);
        D.due("restore(0)", x.restore(0), false);
    }

    /** Each of the texts behind another one that told more, or went on for long. */
    private static void behindOneAnother() {
        VoiceTonight x = Dues.voice(RICH);
        for (int i = 0; i < 4; i++) {
            x.announce(0);
            x.evenings(1);
            x.announce(1);
            x.hold(0);
            x.tellDone(0, true);
            Dues.put(x, i % 2 == 0 ? PLAIN : RICH);
            D.due("read()", x.read(), 0);
            if (i % 2 == 0) {
                isPlain(x);
            }
        }
        for (int i = 0; i < 3; i++) {
            Dues.put(x, PLAIN + "rings = 1; moves = 5; crackle 0;" + (i > 0 ? "quiet 5; seed 7; crackle 49;" : ""));
            D.due("read()", x.read(), 0);
            x.announce(0);
            x.evenings(1);
            // the LOT of seed 7 in evening 0 is 48: CRACKLE, and nobody rang
            D.due("QUIET 3, or 0 by CRACKLE", x.role(0, 3), i > 0 ? 0 : 3);
        }
        Dues.put(x, PLAIN + "rings = 1; crackle 49;");
        D.due("read()", x.read(), 0);
        D.due("the SEED is 0 anew: no CRACKLE", x.count(12), 0);
        x.announce(0);
        x.evenings(1);
        D.due("QUIET is 3 anew", x.role(0, 3), 3);
        D.due("rung up", x.count(14), 1);
        for (String text : new String[] {RICH, RICH, PLAIN, PLAIN}) {
            Dues.put(x, text);
            D.due("read()", x.read(), 0);
        }
        isPlain(x);
    }

    private static void behindFaults() {
        String[] faulty = {"role", "role a", "role a 1", "really l", "says", "says =", "says = (((1", "says = if 1 < (2", "says = 1 *", "seed 1 1",
            "role a 256 1;", "really a b;", "role a 1 1; role a 1 1;", SIX + "role", "moves = (((((((", "says = if 1 < 2 then 3",
            "says = if 1<0 then 1 else if 1<0 then 2 else if 1<0 then 3 else if 1<0 then 4 else if", "says=1;".repeat(101)};
        VoiceTonight x = new VoiceTonight();
        for (String text : faulty) {
            Dues.put(x, text);
            D.due("a fault in " + text, x.read() != 0, true);
            D.due("a place in " + text, x.place() >= 0, true);
            Dues.put(x, PLAIN);
            D.due("read() behind " + text, x.read(), 0);
            D.due("place() behind " + text, x.place(), -1);
            isPlain(x);
            Dues.put(x, SIX);
            D.due("read() behind " + text, x.read(), 0);
        }
    }

    private static void names() {
        D.fault("role a 1 1; role aa 1 1; role aaa 1 1; role aaaaaaaa 1 1; role aaaaaaab 1 1; role baaaaaaa 1 1;", 0, -1);
        D.fault("role zzzzzzzz 1 1; role zzzzzzz 1 1; role azzzzzzz 1 1; role yzzzzzzz 1 1; role b 1 1; role ba 1 1;", 0, -1);
        D.fault("role zzzzzzzz 1 1; role zzzzzzzz 1 1;", 3, 24);
        VoiceTonight x = Dues.voice("role a 1 1; role aa 2 1; role ab 4 1; listener b 1 1 1; listener ba 1 1 1; really ba aa; really b ab; really ba a;");
        D.due("who ba is", x.listener(1, 5), 3);
        D.due("who b is", x.listener(0, 5), 4);
    }

    private static void six() {
        VoiceTonight x = Dues.voice(SIX);
        for (int i = 0; i < 6; i++) {
            D.due("role(i, 4)", x.role(i, 4), 1 << i);
            D.due("role(i, 5)", x.role(i, 5), 1 << i);
            D.due("listener(i, 5)", x.listener(i, 5), 1 << i);
            D.due("tells(i, i, 0)", x.tells(i, i, 0), 0);
            D.due("tells(i, 5 - i, 0)", x.tells(i, 5 - i, 0), 1);
            D.due("tells(i, i, 1)", x.tells(i, i, 1), i);
            D.due("tonight(i, 1)", x.tonight(i, 1), 63 - (1 << i));
            D.due("tonight(i, 2)", x.tonight(i, 2), 63);
            D.due("tonight(i, 3)", x.tonight(i, 3), 5);
            D.due("credit(i)", x.credit(i), 63 - (1 << i));
            D.due("callers(i)", x.callers(i), 1 << i);
            D.due("sway(i)", x.sway(i), 15);
            D.due("holders(i)", x.holders(i), 1 << i);
            D.due("circle(i, 1)", x.circle(i, 1), 0);
            D.due("talks(i)", x.talks(i), 0);
            D.due("never(i)", x.never(i), 0);
            D.due("plan(i, -1)", x.plan(i, -1), 0);
            D.due("then(i, 1, 1)", x.then(i, 1, 1), 10 + 10 * i);
        }
        int[] due = {6, 6, 0, -2, 0, 63, 63, 6, 0, 0, 0, 0, 0, 0, 0, 63, 210, 63};
        for (int what = 0; what < due.length; what++) {
            D.due("count(" + what + ") of six", x.count(what), due[what]);
        }
        D.due("best(0)", x.best(0), 0);
        D.due("star(1)", x.star(1), 5);
        D.due("rumour(0)", x.rumour(0), 1);
        D.due("doubles()", x.doubles(), 0);
        D.due("apart(1)", x.apart(1), 31);
        D.due("unlike(5, 0)", x.unlike(5, 0), 33);
        D.due("rarest(0)", x.rarest(0), 6);
        D.due("who(0, 1)", x.who(0, 1), 63);
        D.due("ask(0)", x.ask(0), 0);
        D.due("plan(-1, -1)", x.plan(-1, -1), 0);
        D.due("faith(1)", x.faith(1), 210);
    }

    private static void sixWholly() {
        VoiceTonight x = Dues.voice(SIX);
        for (int i = 0; i < 6; i++) {
            D.due("announce(i)", x.announce(i), true);
            D.due("evenings(1)", x.evenings(1), i + 1);
            D.due("count(4)", x.count(4), 1 << i);
            D.due("count(15)", x.count(15), 63 - ((2 << i) - 1));
            D.due("count(13)", x.count(13), i + 1);
            D.due("count(14)", x.count(14), i + 1);
            D.due("quietIn(i, 0)", x.quietIn(i, 0), 1);
        }
        for (int l = 0; l < 6; l++) {
            D.due("all is known", x.listener(l, 0), 63);
            D.due("BELIEF", x.listener(l, 2), 10 + 16 * l);
        }
        D.due("rarest(0)", x.rarest(0), 6);
        x = Dues.voice(SIX.replace("moves = which", "moves = 0").replace("listener u 1 1 10", "listener u 255 255 10"));
        for (int l = 0; l < 6; l++) {
            for (int fact = 0; fact < 8; fact++) {
                x.inform(l, fact);
            }
        }
        D.due("rarest(0), all known by six", x.rarest(0), 0);
        D.due("rarest(1), all known by six", x.rarest(1), 6);
        D.due("count(7)", x.count(7), 48);
    }

    /** More than 0 is what counts: of 0 and 1, 1 alone. */
    private static void justZero() {
        VoiceTonight x = Dues.voice("role r 1 1; role s 2 2; listener l 0 3 1; listener m 0 3 1; really l r; really m r; really l s; really m s;"
                + "trusts = which + fame - 2; rings = which + fame - 2; says = fame - 1 + fact;");
        D.due("SAYS 0 of r", x.role(0, 5), 0);
        D.due("SAYS 2 of s", x.role(1, 5), 2);
        D.due("tells TRUSTS -1", x.tells(0, 0, 0), 0);
        D.due("tells TRUSTS 0", x.tells(1, 0, 0), 0);
        D.due("tells TRUSTS 1", x.tells(1, 1, 0), 1);
        D.due("tells RINGS 0", x.tells(0, 1, 2), 0);
        D.due("tells RINGS 1", x.tells(1, 1, 2), 1);
        D.due("credit of -1 and 0", x.credit(0), 0);
        D.due("credit of 0 and 1", x.credit(1), 2);
        D.due("tonight(0, 1)", x.tonight(0, 1), 0);
        D.due("tonight(1, 1)", x.tonight(1, 1), 2);
        D.due("tonight(1, 2)", x.tonight(1, 2), 0);
        D.due("tonight(1, 3)", x.tonight(1, 3), 1);
        D.due("callers of -1 and 0", x.callers(0), 0);
        D.due("callers of 0 and 1", x.callers(1), 2);
        D.due("star(0)", x.star(0), 1);
        D.due("star(1)", x.star(1), 1);
        x.announce(0);
        x.evenings(1);
        D.due("nobody rang by 0", x.count(14), 0);
        x.announce(1);
        x.evenings(1);
        D.due("rung by 1", x.count(14), 1);
        D.due("not known by 0", x.listener(0, 0), 0);
        D.due("known by 1", x.listener(1, 0), 2);
    }

    private static void justQuiet() {
        VoiceTonight x = Dues.voice("role r 3 1; role s 1 1; listener l 0 2 1; really l r; rings = 1; quiet 1; trusts = times;");
        x.announce(0);
        x.evenings(1);
        D.due("QUIET for one evening: count(4)", x.count(4), 1);
        D.due("announce(0)", x.announce(0), false);
        D.due("best(0)", x.best(0), 1);
        D.due("plan(0, -1)", x.plan(0, -1), 2);
        D.due("plan(0, 0)", x.plan(0, 0), 1);
        D.due("plan(0, 1)", x.plan(0, 1), 0);
        D.due("longOf(0, 0)", x.longOf(0, 0), 2);
        D.due("series(0, 1)", x.series(0, 1), 0);
        D.due("series(0, 2)", x.series(0, 2), 2);
        D.due("sure(0, 0, 1, 1)", x.sure(0, 0, 1, 1), 0);
        D.due("sure(0, 0, 2, 1)", x.sure(0, 0, 2, 1), 1);
        D.due("quietIn(0, 1)", x.quietIn(0, 1), 0);
    }

    /** What one LAW looked at is 0 again in the next one. */
    private static void leftOvers() {
        VoiceTonight x = Dues.voice("role r 255 4; listener l 15 255 60; really l r; says = 1 - belief - known - parts - same; trusts = 1 - fact;");
        D.due("tells", x.tells(0, 0, 0), 1);
        D.due("SAYS behind TRUSTS", x.role(0, 5), 255);
        D.due("TRUSTS behind SAYS", x.tells(0, 0, 0), 1);
        x = Dues.voice("role r 1 4; listener l 15 255 60; moves = 1 / fact; trusts = 1; rings = 1;");
        D.due("MOVES by 0", x.tells(0, 0, 1), 0);
        D.due("TRUSTS behind it", x.tells(0, 0, 0), 1);
        D.due("RINGS behind it", x.tells(0, 0, 2), 1);
        x = Dues.voice("role r 1 4; listener l 15 255 60; moves = if 1 < 2 then 3 / 0 else 1; trusts = if 2 < 1 then 1 / 0 else 4 - 3; rings = 1 / 1;");
        D.due("MOVES by 0", x.tells(0, 0, 1), 0);
        D.due("TRUSTS behind it", x.tells(0, 0, 0), 1);
        D.due("RINGS behind it", x.tells(0, 0, 2), 1);
    }

    private static void longLaws() {
        VoiceTonight x = Dues.voice("role r 1 4; listener l 15 255 60; moves = 1" + "+1".repeat(90) + "-1".repeat(97) + ";");
        D.due("a long sum", x.tells(0, 0, 1), 91 - 97);
        String deep = "1+2*(1+2*(1+2*(1+2*(1+2*(1+2*(1+2*1))))))";
        D.fault("moves = " + deep + ";", 0, -1);
        x = Dues.voice("role r 1 4; listener l 15 255 60; moves = " + deep + "-200;");
        D.due("a deep sum", x.tells(0, 0, 1), 55);
        x = Dues.voice("role r 1 4; listener l 15 255 60; moves = if " + deep + " < " + deep + "+1 then " + deep + "- 255 else 7;");
        D.due("deep sums in an if", x.tells(0, 0, 1), 0);
        x = Dues.voice("role r 1 4; listener l 15 255 60; moves = 100-10*(10-8/(4-2*(5-4/(3-1*(2-1/(1*1)))))) ;");
        // 2-1=1, 3-1=2, 5-2=3, 4-6=-2, 10+4=14, 100-140
        D.due("a deep difference", x.tells(0, 0, 1), -40);
    }

    private static void longLawsAgain() {
        VoiceTonight x = new VoiceTonight();
        for (int i = 0; i < 6; i++) {
            Dues.put(x, "role r 1 4; listener l 15 255 60; moves = " + i + "+1".repeat(180) + "-180;");
            D.due("read()", x.read(), 0);
            D.due("a long sum, read once more", x.tells(0, 0, 1), i);
        }
    }
}
