/** Promises 1 to 5: a new object, feed, back, read, place, and the FAULTS of texts. */
public final class TapeTest {
    private static final Dues D = new Dues();
    private static final String SIX_ROLES = "role a 1 1;role b 1 1;role c 1 1;role d 1 1;role e 1 1;role f 1 1;";

    public static void main(String[] args) {
        newObject();
        tape();
        bytes();
        tokens();
        syntaxOfTells();
        syntaxOfLaws();
        room();
        roomOfTokens();
        meanings();
        order();
        faultChangesNothing();
        goodTextReplacesAll();
        D.end();
    }

    private static void newObject() {
        VoiceTonight x = new VoiceTonight();
        for (int what = 0; what < 18; what++) {
            D.due("new count(" + what + ")", x.count(what), what == 3 ? -2 : 0);
        }
        D.due("new place()", x.place(), VoiceTonight.NONE);
        D.due("new undo()", x.undo(), false);
        D.due("new evenings(0)", x.evenings(0), 0);
        D.due("new hold(2)", x.hold(2), true);
        D.due("new restore(2)", x.restore(2), true);
        D.due("new count(11)", x.count(11), 1);
    }

    private static void tape() {
        VoiceTonight x = new VoiceTonight();
        for (int i = 1; i <= 100; i++) {
            D.due("feed " + i, x.feed(0, 0, 0, 0, 0), 20 * i);
        }
        D.due("feed 101", x.feed(1, 2, 3, 4, 5), -1);
        D.due("count(8) full", x.count(8), 2000);
        D.due("back(1)", x.back(1), 1999);
        D.due("feed of 20 where 1 is left", x.feed(1, 2, 3, 4, 5), -1);
        D.due("back(-1)", x.back(-1), -1);
        D.due("back(MIN)", x.back(Integer.MIN_VALUE), -1);
        D.due("back(2000)", x.back(2000), -1);
        D.due("back(0)", x.back(0), 1999);
        D.due("back(19)", x.back(19), 1980);
        D.due("feed again", x.feed(1, 2, 3, 4, 5), 2000);
        D.due("back(2000)", x.back(2000), 0);
        D.due("back(1) of none", x.back(1), -1);
        D.due("count(8)", x.count(8), 0);
    }

    private static void bytes() {
        VoiceTonight x = new VoiceTonight();
        // "seed 12 ; quiet 7  ;" in order, the highest byte first
        x.feed(0x73656564, 0x20313220, 0x3b207175, 0x69657420, 0x3720203b);
        D.due("read() of bytes", x.read(), 0);
        D.due("count(8) behind read", x.count(8), 0);
        x.feed(0x73656564, 0x2031323b, 0xff202020, 0x20202020, 0x20202020);
        D.due("read() of byte 255", x.read(), 1);
        D.due("place() of byte 255", x.place(), 8);
        x.feed(0x73656564, 0x2031323b, 0x00202020, 0x20202020, 0x20202020);
        D.due("read() of byte 0", x.read(), 1);
        D.due("place() of byte 0", x.place(), 8);
        x.feed(0x73656564, 0x2031323b, 0x20202020, 0x20202020, 0x20202020);
        D.due("read() of blanks behind", x.read(), 0);
        D.due("place() without", x.place(), -1);
    }

    private static void tokens() {
        D.fault("", 0, -1);
        D.fault(" \t\r\n ", 0, -1);
        D.fault("\trole\na\r1 1 ;\n", 0, -1);
        D.fault("role a1 1;", 0, -1);
        D.fault("rolea 1 1;", 1, 0);
        D.fault("role abcdefgh 1 1;", 0, -1);
        D.fault("role abcdefghi 1 1;", 1, 5);
        D.fault("role a 0001 0009;", 0, -1);
        D.fault("role a 00001 9;", 1, 7);
        D.fault("role A 1 1;", 1, 5);
        D.fault("role a 1 1;#", 1, 11);
        D.fault("role a 1 1;\u000b", 1, 11);
        D.fault("role a 1 1;.", 1, 11);
        D.fault("seed 9999;seed 10000;", 1, 15);
        for (String word : ("role listener really says trusts moves rings crackle quiet seed if then else fame times"
                + " fact evening belief known parts which same").split(" ")) {
            D.fault("role " + word + " 1 1;", 1, 5);
            D.fault("role " + word + "z 1 1;", word.length() == 8 ? 1 : 0, word.length() == 8 ? 5 : -1);
        }
        D.fault(" ".repeat(1993) + "seed 1;", 0, -1);
        D.fault(" ".repeat(1994) + "seed 1", 1, 2000);
    }

    private static void syntaxOfTells() {
        D.fault("x", 1, 0);
        D.fault(" ;", 1, 1);
        D.fault("if", 1, 0);
        D.fault("role", 1, 4);
        D.fault("role  ", 1, 6);
        D.fault("role a 1 1", 1, 10);
        D.fault("role a 1 1;;", 1, 11);
        D.fault("role a 11;", 1, 9);
        D.fault("role a 1 1 1;", 1, 11);
        D.fault("role 1 1 1;", 1, 5);
        D.fault("listener l 1 2 3;", 0, -1);
        D.fault("listener l 1 2;", 1, 14);
        D.fault("listener l 1 2 3 4;", 1, 17);
        D.fault("listener l 1 2 3", 1, 16);
        D.fault("really a;", 1, 8);
        D.fault("really a b c;", 1, 11);
        D.fault("really a 1;", 1, 9);
        D.fault("crackle;", 1, 7);
        D.fault("crackle 1 2;", 1, 10);
        D.fault("quiet x;", 1, 6);
        D.fault("seed = 1;", 1, 5);
        D.fault("seed 1", 1, 6);
    }

    private static void syntaxOfLaws() {
        D.fault("says = 1;trusts = fame; moves=times;rings =(same);", 0, -1);
        D.fault("says = fame+times-fact*evening/belief+known-parts*which/same;", 0, -1);
        D.fault("says 1;", 1, 5);
        D.fault("says = ;", 1, 7);
        D.fault("says = -1;", 1, 7);
        D.fault("says = 1 +;", 1, 10);
        D.fault("says = 1 + * 2;", 1, 11);
        D.fault("says = 1 1;", 1, 9);
        D.fault("says = x;", 1, 7);
        D.fault("says = says;", 1, 7);
        D.fault("says = ();", 1, 8);
        D.fault("says = (1;", 1, 9);
        D.fault("says = 1);", 1, 8);
        D.fault("says = (1) (2);", 1, 11);
        D.fault("says = 1 < 2;", 1, 9);
        D.fault("says = if 1 < 2 then 3 else 4;", 0, -1);
        D.fault("says = if 1 < 2 then 3 else if (1) < 2 * 2 then 3 else 4 - 1;", 0, -1);
        D.fault("says = if 1 then 2 else 3;", 1, 12);
        D.fault("says = if 1 < 2 < 3 then 3 else 4;", 1, 16);
        D.fault("says = if 1 < 2 then 3;", 1, 22);
        D.fault("says = if 1 < 2 else 3;", 1, 16);
        D.fault("says = if 1 < 2 then 3 then 4;", 1, 23);
        D.fault("says = if 1 < 2 then if 1 < 2 then 3 else 4 else 5;", 1, 21);
        D.fault("says = if if 1;", 1, 10);
        D.fault("says = (if 1 < 2 then 3 else 4);", 1, 8);
        D.fault("says = 1 + if 1 < 2 then 3 else 4;", 1, 11);
        D.fault("says = if (1 < 2) then 3 else 4;", 1, 13);
        D.fault("says = if 1 < 2 then 3 else ;", 1, 28);
        D.fault("says = if 1 < 2 then 3 else 4", 1, 29);
        D.fault("says = 1 then", 1, 9);
        D.fault("says = 1 else", 1, 9);
        D.fault("says", 1, 4);
        D.fault("says = (((1", 1, 11);
    }

    private static void room() {
        D.fault(SIX_ROLES, 0, -1);
        D.fault(SIX_ROLES + "role g 1 1;", 2, 66);
        D.fault(SIX_ROLES + " role", 2, 67);
        D.fault(SIX_ROLES + " role ;", 2, 67);
        String six = SIX_ROLES.replace("role", "listener").replace("1 1", "1 1 1");
        D.fault(six, 0, -1);
        D.fault(six + "listener g 1 1 1;", 2, six.length());
        String really = "role r 1 1;listener l 1 1 1;role a 1 1;role b 1 1;role c 1 1;role d 1 1;listener m 1 1 1;"
                + "really l a;really l b;really l c;really l d;really l r;really m r;";
        D.fault(really, 0, -1);
        D.fault(really + "really m a;", 2, really.length());
        String oneIf = "if 1 < 2 then 3 else ";
        D.fault("moves = " + oneIf.repeat(4) + "5;", 0, -1);
        D.fault("moves = " + oneIf.repeat(5) + "5;", 2, 8 + 4 * oneIf.length());
        D.fault("moves = " + oneIf.repeat(4) + "5; rings = " + oneIf.repeat(4) + "5;", 0, -1);
        D.fault("moves = " + oneIf.repeat(4) + "if", 2, 8 + 4 * oneIf.length());
        D.fault("says = ((((((1))))));", 0, -1);
        D.fault("says = (((((((1)))))));", 2, 13);
        D.fault("says = (((((((", 2, 13);
        D.fault("says = ((((((1))))))+((((((1))+(2)))));", 0, -1);
        D.fault("says = ((((((1))))))+((((((1)+((2)))))));", 2, 31);
        D.fault("says = (((((1+(1)+(1)+((2)))))));", 2, 23);
        D.fault("says = if ((((((1)))))) < ((((((1)))))) then ((((((1)))))) else ((((((1))))));", 0, -1);
    }

    private static void roomOfTokens() {
        String full = "says=1;".repeat(100);
        D.fault(full, 0, -1);
        D.fault(full + "  \n", 0, -1);
        D.fault(full + "says", 2, 700);
        D.fault(full + " seed 1;", 2, 701);
        D.fault(full + ")", 1, 700);
        D.fault(full + "#", 1, 700);
        D.fault(full + "abcdefghi", 1, 700);
        String less = full.substring(0, 693);
        D.fault(less + "moves=1+2;", 2, 701);
        D.fault(less + "moves=1+1", 2, 701);
        D.fault(less + "moves=1+;", 1, 701);
        D.fault(less + "moves=1+", 1, 701);
        D.fault(less + "moves=1;", 0, -1);
    }

    private static void meanings() {
        D.fault("role a 1 1; role a 2 2;", 3, 17);
        D.fault("role a 1 1; listener a 1 1 1;", 3, 21);
        D.fault("listener a 1 1 1; listener a 1 1 1;", 3, 27);
        D.fault("listener a 1 1 1; role a 1 1;", 3, 23);
        D.fault("role a 1 1; listener l 1 1 1; really l a; really l a;", 3, 51);
        D.fault("role a 1 1; listener l 1 1 1; listener m 1 1 1; really l a; really m a;", 0, -1);
        D.fault("really l r;", 4, 7);
        D.fault("listener l 1 1 1; really l r;", 4, 27);
        D.fault("role r 1 1; really r r;", 4, 19);
        D.fault("listener l 1 1 1; really l l;", 4, 27);
        D.fault("role r 1 1; really l r; listener l 1 1 1;", 4, 19);
        D.fault("listener l 1 1 1; really l r; role r 1 1;", 4, 27);
        D.fault("role r 255 9;", 0, -1);
        D.fault("role r 256 9;", 5, 7);
        D.fault("role r 255 10;", 5, 11);
        D.fault("role r 0 0;", 0, -1);
        D.fault("listener l 255 255 99;", 0, -1);
        D.fault("listener l 256 255 99;", 5, 11);
        D.fault("listener l 255 256 99;", 5, 15);
        D.fault("listener l 255 255 100;", 5, 19);
        D.fault("crackle 100;", 0, -1);
        D.fault("crackle 101;", 5, 8);
        D.fault("quiet 99;quiet 1;", 0, -1);
        D.fault("quiet 100;", 5, 6);
        D.fault("quiet 0;", 5, 6);
        D.fault("seed 9999;seed 0;", 0, -1);
        D.fault("says = 9999 * 9999;", 0, -1);
        D.fault("crackle 101; crackle 1;", 5, 8);
    }

    private static void order() {
        D.fault("role r 256 10; role r 1 1;", 5, 7);
        D.fault("role r 1 1; role r 256 1;", 3, 17);
        D.fault("really l r; role x 256 1;", 4, 7);
        D.fault("role r 256 1; x", 1, 14);
        D.fault("role r 256 1", 1, 12);
        D.fault(SIX_ROLES.replace("b 1", "b 999") + "role r 1 1; #", 2, SIX_ROLES.length() + 2);
        D.fault("role a 1 1; role a 1 1; says = (((((((1)))))));", 2, 37);
    }

    private static void faultChangesNothing() {
        VoiceTonight x = Dues.voice("role r 3 1; listener l 0 3 50;");
        x.announce(0);
        x.evenings(2);
        x.tellFact(1, true);
        x.hold(1);
        Dues.put(x, "role z 1 1; role y 2 2; listener q 1 1 1; oops");
        D.due("read()", x.read(), 1);
        D.due("place()", x.place(), 42);
        D.due("count(8)", x.count(8), 0);
        int[] due = {1, 1, 2, -2, 0, 1, 1, 2, 0, 2, 1, 1, 0, 1, 0, 0, 50, 0};
        for (int what = 0; what < 18; what++) {
            D.due("count(" + what + ") behind a fault", x.count(what), due[what]);
        }
        D.due("restore(1) behind a fault", x.restore(1), true);
        D.due("role(0, 0) behind a fault", x.role(0, 0), 3);
    }

    private static void goodTextReplacesAll() {
        VoiceTonight x = Dues.voice("role r 3 1; role s 9 9; listener l 1 3 50; listener m 2 3 40; really l r; says = 0 - 1;"
                + "trusts = 0; moves = 9; rings = 1; crackle 100; seed 5; quiet 9;");
        x.announce(0);
        x.turn(1, false);
        x.evenings(3);
        x.tellFact(1, true);
        x.hold(1);
        Dues.put(x, "x");
        x.read();
        Dues.put(x, "role z 7 1; listener q 1 1 1; really q z;");
        D.due("read()", x.read(), 0);
        D.due("place()", x.place(), -1);
        int[] due = {1, 1, 0, -2, 0, 1, 1, 1, 0, 0, 0, 0, 0, 0, 0, 1, 1, 1};
        for (int what = 0; what < 18; what++) {
            D.due("count(" + what + ") behind a text", x.count(what), due[what]);
        }
        D.due("undo()", x.undo(), false);
        D.due("restore(1)", x.restore(1), false);
        D.due("role(0, 5)", x.role(0, 5), 7);
        D.due("tells(0, 0, 0): TRUSTS is 1 anew", x.tells(0, 0, 0), 1);
        D.due("tells(0, 0, 1): MOVES is 0 anew", x.tells(0, 0, 1), 0);
        D.due("tells(0, 0, 2): RINGS is 0 anew", x.tells(0, 0, 2), 0);
        Dues.put(x, "");
        D.due("read() of nothing", x.read(), 0);
        D.due("count(0)", x.count(0), 0);
        D.due("count(6)", x.count(6), 0);
    }
}
