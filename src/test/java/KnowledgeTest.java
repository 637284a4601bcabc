/** Promises 20 to 22, 27, 28 and 30 to 34: who knows what, who could, and what tells ROLES apart. */
public final class KnowledgeTest {
    private static final Dues D = new Dues();

    public static void main(String[] args) {
        missing();
        holders();
        rarest();
        circle();
        talks();
        never();
        rumour();
        doubles();
        apart();
        unlike();
        D.end();
    }

    private static void missing() {
        VoiceTonight x = Dues.voice("listener l 5 7 0; listener m 7 5 0; listener n 0 255 0;");
        D.due("missing(0)", x.missing(0), 2);
        D.due("missing(1)", x.missing(1), 0);
        D.due("missing(2)", x.missing(2), 255);
        D.due("missing(3)", x.missing(3), -1);
        D.due("missing(-1)", x.missing(-1), -1);
        x.inform(0, 1);
        D.due("missing(0), informed", x.missing(0), 0);
    }

    private static void holders() {
        VoiceTonight x = Dues.voice("listener l 5 7 0; listener m 7 5 0; listener n 128 255 0;");
        int[] due = {3, 2, 3, 0, 0, 0, 0, 4};
        for (int fact = 0; fact < 8; fact++) {
            D.due("holders(" + fact + ")", x.holders(fact), due[fact]);
        }
        D.due("holders(8)", x.holders(8), -1);
        D.due("holders(-1)", x.holders(-1), -1);
        x.turn(1, false);
        D.due("holders(1), OFF", x.holders(1), 2);
    }

    private static void rarest() {
        VoiceTonight x = Dues.voice("listener l 255 7 0; listener m 247 5 0; listener n 95 255 0;");
        D.due("rarest(0)", x.rarest(0), 3);
        D.due("rarest(1)", x.rarest(1), 2);
        D.due("rarest(2)", x.rarest(2), -1);
        D.due("rarest(-1)", x.rarest(-1), -1);
        x.inform(1, 3);
        D.due("rarest(0)", x.rarest(0), 5);
        x.inform(2, 5);
        D.due("rarest(0)", x.rarest(0), 7);
        x.inform(2, 7);
        D.due("rarest(0) of all alike", x.rarest(0), 0);
        D.due("rarest(1) of all alike", x.rarest(1), 3);
    }

    private static void circleIs(VoiceTonight x, int listener, int size, int bits) {
        D.due("circle(" + listener + ", 0)", x.circle(listener, 0), size);
        D.due("circle(" + listener + ", 1)", x.circle(listener, 1), bits);
    }

    private static void circle() {
        VoiceTonight x = Dues.voice("listener a 1 63 0; listener b 2 3 0; listener c 14 48 0; listener d 6 1 0; listener e 16 62 0; listener f 32 64 0;");
        circleIs(x, 0, 3, 4 + 16 + 32);
        circleIs(x, 1, 1, 1);
        circleIs(x, 2, 2, 16 + 32);
        circleIs(x, 3, 1, 1);
        circleIs(x, 4, 2, 4 + 32);
        circleIs(x, 5, -2, -2);
        D.due("circle(6, 0)", x.circle(6, 0), -1);
        D.due("circle(-1, 0)", x.circle(-1, 0), -1);
        D.due("circle(0, 2)", x.circle(0, 2), -1);
        D.due("circle(0, -1)", x.circle(0, -1), -1);
        D.due("circle(5, 2)", x.circle(5, 2), -1);
        x = Dues.voice("listener a 0 3 0; listener b 2 0 0; listener c 1 0 0; listener d 3 0 0; listener e 3 3 0;");
        circleIs(x, 0, 1, 8);
        circleIs(x, 4, 0, 0);
        x = Dues.voice("listener a 0 31 0; listener b 1 0 0; listener c 2 0 0; listener d 4 0 0; listener e 8 3 0; listener f 16 0 0;");
        circleIs(x, 0, 5, 62);
        x.turn(1, false);
        circleIs(x, 0, 5, 62);
    }

    private static void talks() {
        VoiceTonight x = Dues.voice("listener a 1 63 0; listener b 2 3 0; listener c 14 48 0; listener d 6 0 0; listener e 16 62 0; listener f 32 64 0;");
        int[] due = {3, 1, 2, 0, 2, -2};
        for (int l = 0; l < 6; l++) {
            D.due("talks(" + l + ")", x.talks(l), due[l]);
        }
        D.due("talks(6)", x.talks(6), -1);
        D.due("talks(-1)", x.talks(-1), -1);
        x = Dues.voice("listener a 0 15 0; listener b 1 0 0; listener c 2 0 0; listener d 4 0 0; listener e 8 3 0;");
        D.due("talks(0): four would do", x.talks(0), -2);
        x.talk(1, 2);
        D.due("talks(0): three do", x.talks(0), 3);
    }

    private static void never() {
        VoiceTonight x = Dues.voice("role a 1 1; role b 6 1; listener l 0 255 1; listener m 16 31 1; says = 0;");
        D.due("never(0)", x.never(0), 248);
        D.due("never(1)", x.never(1), 8);
        D.due("never(2)", x.never(2), -1);
        D.due("never(-1)", x.never(-1), -1);
        x.inform(1, 3);
        D.due("never(1), informed", x.never(1), 0);
        D.due("never of fact 0", Dues.voice("role b 6 1; listener l 0 255 1;").never(0), 249);
        D.due("never of no ROLES", Dues.voice("listener l 1 3 1;").never(0), 2);
    }

    private static void rumour() {
        VoiceTonight x = Dues.voice("listener a 1 0 0; listener b 3 0 0; listener c 12 0 0; listener d 12 0 0;");
        D.due("rumour(0)", x.rumour(0), 12);
        D.due("rumour(1)", x.rumour(1), 4);
        D.due("rumour(2)", x.rumour(2), -1);
        D.due("rumour(-1)", x.rumour(-1), -1);
        x.talk(1, 2);
        D.due("rumour(0)", x.rumour(0), 1);
        D.due("rumour(1)", x.rumour(1), 3);
        x.talk(0, 1);
        D.due("rumour(0)", x.rumour(0), 3);
        D.due("rumour(1)", x.rumour(1), 2);
        x.talk(0, 3);
        D.due("rumour(0) of nothing more", x.rumour(0), -2);
        D.due("rumour(1) of nothing more", x.rumour(1), -2);
        D.due("rumour(2) of nothing more", x.rumour(2), -1);
        D.due("rumour(0) of one", Dues.voice("listener a 1 0 0;").rumour(0), -2);
        D.due("rumour(0) of the last two", Dues.voice("listener a 1 0 0; listener b 1 0 0; listener c 1 0 0;"
                + "listener d 1 0 0; listener e 1 0 0; listener f 3 0 0;").rumour(0), 5);
    }

    private static void doubles() {
        String cast = "role a 1 1; role b 1 1; role c 1 1; role d 1 1; listener l 1 1 1; listener m 1 1 1; listener n 1 1 1;";
        D.due("doubles() of none", Dues.voice(cast + "really l a; really m b; really n c;").doubles(), 0);
        D.due("doubles() of one", Dues.voice(cast + "really l a; really l b; really n c;").doubles(), 1);
        D.due("doubles() of one by two", Dues.voice(cast + "really l a; really l b; really m b; really m a;").doubles(), 1);
        D.due("doubles() of three", Dues.voice(cast + "really l a; really l c; really l d; really m a; really m c;").doubles(), 3);
        D.due("doubles() of six", Dues.voice(cast + "really l a; really l b; really l c; really l d;").doubles(), 6);
    }

    private static void apartIs(String text, int size, int bits) {
        VoiceTonight x = Dues.voice(text);
        D.due("apart(0) of " + text, x.apart(0), size);
        D.due("apart(1) of " + text, x.apart(1), bits);
        D.due("apart(2) of " + text, x.apart(2), -1);
        D.due("apart(-1) of " + text, x.apart(-1), -1);
    }

    private static void apart() {
        apartIs("", 0, 0);
        apartIs("role a 77 1;", 0, 0);
        apartIs("role a 12 1; role b 20 1;", 1, 8);
        apartIs("role a 128 1; role b 0 1;", 1, 128);
        apartIs("role a 1 1; role b 2 1; role c 1 1;", -2, -2);
        apartIs("role a 1 1; role b 2 1; role c 4 1;", 2, 3);
        apartIs("role a 1 1; role b 2 1; role c 4 1; role d 8 1;", 3, 7);
        apartIs("role a 1 1; role b 2 1; role c 68 1; role d 72 1;", 3, 7);
        apartIs("role a 1 1; role b 66 1; role c 68 1; role d 9 1;", 3, 11);
        apartIs("role a 1 1; role b 64 1; role c 72 1; role d 9 1;", 2, 9);
        apartIs("role a 1 1; role b 2 1; role c 4 1; role d 8 1; role e 16 1; role f 32 1;", 5, 31);
    }

    private static void unlike() {
        VoiceTonight x = Dues.voice("role a 12 1; role b 20 1; role c 12 1; says = 0;");
        D.due("unlike(0, 1)", x.unlike(0, 1), 24);
        D.due("unlike(1, 0)", x.unlike(1, 0), 24);
        D.due("unlike(0, 2)", x.unlike(0, 2), 0);
        D.due("unlike(0, 0)", x.unlike(0, 0), -1);
        D.due("unlike(0, 3)", x.unlike(0, 3), -1);
        D.due("unlike(3, 0)", x.unlike(3, 0), -1);
        D.due("unlike(-1, 0)", x.unlike(-1, 0), -1);
        D.due("unlike(0, -1)", x.unlike(0, -1), -1);
    }
}
