import java.util.Arrays;

/** Boundary cases of promises 1 to 5, and of the terms that they use: TOKENS, the grammar, FAULTS. */
public final class BoundsOfTextsTest {
    private static final Dues D = new Dues();
    private static final int MIN = Integer.MIN_VALUE;
    private static final int MAX = Integer.MAX_VALUE;
    private static final int BLANKS = 0x20202020;
    private static final String[] WORDS = ("role listener really says trusts moves rings crackle quiet seed if then else"
            + " fame times fact evening belief known parts which same").split(" ");
    private static final String SIX_ROLES = "role a 1 1;role b 2 1;role c 4 1;role d 8 1;role e 16 1;role f 32 1;";
    private static final String SIX_LISTENERS = "listener u 1 1 1;listener v 1 1 1;listener w 1 1 1;listener x 1 1 1;"
            + "listener y 1 1 1;listener z 1 1 1;";
    private static final String SIX_REALLY = "really u a;really u b;really u c;really u d;really u e;really u f;";
    private static final String ONE_IF = "if 1 < 2 then 3 else ";
    private static final String FULL_OF_TOKENS = "says=1;".repeat(100);

    public static void main(String[] args) {
        nothingIsThere();
        nothingIsThereToTry();
        feedIsFull();
        feedBytes();
        backTooFar();
        backToEmpty();
        readEmpties();
        readOfNothing();
        placeWithout();
        placeIsTheLatest();
        mostBytes();
        blanks();
        everyByte();
        names();
        words();
        ints();
        longOnes();
        cutShort();
        noTokenAnywhere();
        emptyForms();
        syntaxAtEnds();
        mostRoles();
        mostListeners();
        mostReally();
        mostTokens();
        mostIfs();
        mostOpened();
        firstByPlace();
        leastOfOnePlace();
        meaningsWaitForSyntax();
        twice();
        noSuchName();
        wrong();
        faultChangesNothing();
        manyFaults();
        inPlaceOfTheOneAhead();
        D.endOf(1, 2, 3, 4, 5);
    }

    // ---- promise 1

    private static void nothingIsThere() {
        D.sentence(1, "No ROLES, no LISTENERS.");
        VoiceTonight x = new VoiceTonight();
        for (int what = -1; what <= 18; what++) {
            D.due("count(" + what + ")", x.count(what), what < 0 || what > 17 ? -1 : what == 3 ? -2 : 0);
        }
        for (int what = 0; what < 6; what++) {
            D.due("role(0, " + what + ")", x.role(0, what), -1);
            D.due("listener(0, " + what + ")", x.listener(0, what), -1);
        }
        D.due("tells(0, 0, 0)", x.tells(0, 0, 0), -100);
        D.due("announce(0)", x.announce(0), false);
        D.due("announce(-1)", x.announce(-1), false);
        D.due("turn(0, true)", x.turn(0, true), false);
        D.due("turn(0, false)", x.turn(0, false), false);
        D.due("inform(0, 0)", x.inform(0, 0), false);
        D.due("talk(0, 1)", x.talk(0, 1), -1);
        D.due("undo()", x.undo(), false);
        D.due("forget()", x.forget(), 0);
        D.due("tellDone(0, true)", x.tellDone(0, true), -1);
        D.due("who(0, 0)", x.who(0, 0), 0);
        D.due("who(0, 1)", x.who(0, 1), 0);
        D.due("ask(0)", x.ask(0), -2);
        D.due("restore(0)", x.restore(0), false);
        D.due("evenings(30)", x.evenings(30), 30);
        D.due("undo()", x.undo(), true);
        D.due("hold(0)", x.hold(0), true);
        D.due("restore(0)", x.restore(0), true);
    }

    private static void nothingIsThereToTry() {
        D.sentence(1, "No ROLES, no LISTENERS: what would be");
        VoiceTonight x = new VoiceTonight();
        for (int what = 0; what < 2; what++) {
            D.due("best", x.best(what), -2);
            D.due("star", x.star(what), -2);
            D.due("rarest", x.rarest(what), 0);
            D.due("circle", x.circle(0, what), -1);
            D.due("apart", x.apart(what), 0);
            D.due("rumour", x.rumour(what), -2);
            D.due("then", x.then(0, 0, what), -1);
            D.due("tonight", x.tonight(0, what), -1);
        }
        D.due("plan(-1, -1)", x.plan(-1, -1), 0);
        D.due("plan(-1, 0)", x.plan(-1, 0), -1);
        D.due("plan(0, -1)", x.plan(0, -1), -1);
        D.due("credit(0)", x.credit(0), -1);
        D.due("missing(0)", x.missing(0), -1);
        D.due("holders(7)", x.holders(7), 0);
        D.due("series(0, 1)", x.series(0, 1), -1);
        D.due("longOf(0, 0)", x.longOf(0, 0), -1);
        D.due("callers(0)", x.callers(0), -1);
        D.due("sway(0)", x.sway(0), -100000);
        D.due("doubles()", x.doubles(), 0);
        D.due("faith(0)", x.faith(0), 0);
        D.due("faith(30)", x.faith(30), 0);
        D.due("never(0)", x.never(0), -1);
        D.due("unlike(0, 1)", x.unlike(0, 1), -1);
        D.due("talks(0)", x.talks(0), -1);
        D.due("quietIn(0, 0)", x.quietIn(0, 0), -1);
        D.due("sure(0, 0, 0, 1)", x.sure(0, 0, 0, 1), -1);
    }

    // ---- promises 2 and 3

    /** A tape of that many blanks. */
    private static VoiceTonight blanksOn(int bytes) {
        VoiceTonight x = new VoiceTonight();
        Dues.put(x, " ".repeat(bytes));
        return x;
    }

    private static void feedIsFull() {
        D.sentence(2, "NONE, and nothing comes, if it would have more than 2,000.");
        D.due("feed on 0", blanksOn(0).feed(BLANKS, BLANKS, BLANKS, BLANKS, BLANKS), 20);
        D.due("feed on 1979", blanksOn(1979).feed(BLANKS, BLANKS, BLANKS, BLANKS, BLANKS), 1999);
        D.due("feed on 1980", blanksOn(1980).feed(BLANKS, BLANKS, BLANKS, BLANKS, BLANKS), 2000);
        for (int bytes : new int[] {1981, 1999, 2000}) {
            VoiceTonight x = blanksOn(bytes);
            D.due("feed on " + bytes, x.feed(1, 2, 3, 4, 5), -1);
            D.due("count(8)", x.count(8), bytes);
            D.due("read() of blanks alone: nothing came", x.read(), 0);
            D.due("feed behind read()", x.feed(1, 2, 3, 4, 5), 20);
        }
        VoiceTonight x = blanksOn(2000);
        for (int i = 0; i < 3; i++) {
            D.due("feed on a full tape, again", x.feed(MAX, MIN, -1, 0, 1), -1);
        }
        D.due("back(20)", x.back(20), 1980);
        D.due("feed fits again", x.feed(MAX, MIN, -1, 0, 1), 2000);
        D.due("read() of what came then", x.read(), 1);
        D.due("place()", x.place(), 1980);
    }

    private static void feedBytes() {
        D.sentence(2, "Twenty bytes, the highest of a first, come behind the tape");
        for (int i = 0; i < 20; i++) {
            int[] w = {BLANKS, BLANKS, BLANKS, BLANKS, BLANKS};
            w[i / 4] |= 0xff << 24 - i % 4 * 8;
            VoiceTonight x = blanksOn(3);
            D.due("feed", x.feed(w[0], w[1], w[2], w[3], w[4]), 23);
            D.due("read() of byte 255", x.read(), 1);
            D.due("place() of byte 255 behind " + i, x.place(), 3 + i);
        }
    }

    private static void backTooFar() {
        D.sentence(3, "NONE, and nothing goes, if it has not so many, or n is below 0.");
        VoiceTonight x = new VoiceTonight();
        for (int n : new int[] {1, 20, 2000, MAX, -1, MIN}) {
            D.due("back(" + n + ") of none", x.back(n), -1);
            D.due("count(8)", x.count(8), 0);
        }
        Dues.put(x, "seed x");
        for (int n : new int[] {7, 8, MAX, -1, -6, MIN}) {
            D.due("back(" + n + ") of 6", x.back(n), -1);
            D.due("count(8)", x.count(8), 6);
        }
        D.due("read(): nothing went", x.read(), 1);
        D.due("place()", x.place(), 5);
        D.due("back(1) behind read()", x.back(1), -1);
        x = blanksOn(2000);
        D.due("back(2001) of 2000", x.back(2001), -1);
        D.due("back(2000) of 2000", x.back(2000), 0);
    }

    private static void backToEmpty() {
        D.sentence(3, "The last n bytes of the tape go: how many it has.");
        VoiceTonight x = new VoiceTonight();
        D.due("back(0) of none", x.back(0), 0);
        Dues.put(x, "seed 1;#");
        D.due("back(0)", x.back(0), 8);
        D.due("back(1): the last one", x.back(1), 7);
        D.due("read() without it", x.read(), 0);
        Dues.put(x, "#seed 1;");
        D.due("back(7)", x.back(7), 1);
        D.due("back(1) of 1", x.back(1), 0);
        D.due("read() of none", x.read(), 0);
        Dues.put(x, "seed 99999;");
        x.back(5);
        Dues.put(x, ";");
        D.due("read() of seed 9;", x.read(), 0);
    }

    // ---- promises 4 and 5

    private static void readEmpties() {
        D.sentence(4, "The tape, which is empty then, is read");
        VoiceTonight x = new VoiceTonight();
        String[] texts = {"", "  ", "seed 1;", "#", SIX_ROLES + "role", "role a 1 1;role a 1 1;", "really a b;", "quiet 0;"};
        int[] due = {0, 0, 0, 1, 2, 3, 4, 5};
        for (int i = 0; i < texts.length; i++) {
            Dues.put(x, texts[i]);
            D.due("count(8)", x.count(8), texts[i].length());
            D.due("read() of \"" + texts[i] + "\"", x.read(), due[i]);
            D.due("count(8) behind it", x.count(8), 0);
            D.due("back(1) behind it", x.back(1), -1);
        }
    }

    private static void readOfNothing() {
        D.sentence(4, "text: {TELL}. (none at all)");
        VoiceTonight x = Dues.voice("role a 1 1; listener l 1 1 1; really l a; moves = 5; crackle 100;");
        x.announce(0);
        x.evenings(3);
        x.hold(2);
        x.tellFact(0, true);
        D.due("read() of an empty tape", x.read(), 0);
        for (int what = 0; what < 18; what++) {
            D.due("count(" + what + ")", x.count(what), what == 3 ? -2 : 0);
        }
        D.due("role(0, 0)", x.role(0, 0), -1);
        D.due("undo()", x.undo(), false);
        D.due("restore(2)", x.restore(2), false);
    }

    private static void placeWithout() {
        D.sentence(5, "NONE without.");
        VoiceTonight x = new VoiceTonight();
        D.due("place() of a new object", x.place(), -1);
        D.due("read() of nothing", x.read(), 0);
        D.due("place() behind it", x.place(), -1);
        Dues.put(x, "#");
        D.due("place() ahead of read()", x.place(), -1);
        x.read();
        D.due("place() of a FAULT at byte 0", x.place(), 0);
        x.read();
        D.due("place() behind a text without FAULT", x.place(), -1);
    }

    private static void placeIsTheLatest() {
        D.sentence(5, "The byte of the latest read()'s FAULT");
        VoiceTonight x = new VoiceTonight();
        Dues.put(x, "seed 1; seed #");
        x.read();
        D.due("place()", x.place(), 13);
        x.feed(1, 2, 3, 4, 5);
        x.back(20);
        x.evenings(1);
        D.due("place(), calls later", x.place(), 13);
        Dues.put(x, "seed");
        x.read();
        D.due("place() of the next one", x.place(), 4);
        D.due("place() twice", x.place(), 4);
    }

    // ---- TOKENS

    private static void mostBytes() {
        D.sentence(4, "A TEXT has 2,000 bytes at most.");
        D.fault(" ".repeat(2000), 0, -1);
        D.fault(" ".repeat(1993) + "seed 1;", 0, -1);
        D.fault("seed 1;" + " ".repeat(1993), 0, -1);
        D.fault(" ".repeat(1994) + "seed 1", 1, 2000);
        D.fault(" ".repeat(1999) + "#", 1, 1999);
        D.fault(" ".repeat(1999) + ";", 1, 1999);
        D.fault("seed" + " ".repeat(1996), 1, 2000);
        D.fault("role a" + " ".repeat(1990) + "9 9;", 0, -1);
    }

    private static boolean isIn(int c, String of) {
        return of.indexOf(c) >= 0;
    }

    private static void blanks() {
        D.sentence(4, "with blanks (9, 10, 13, 32) between or not");
        for (int c : new int[] {9, 10, 13, 32}) {
            D.fault((char) c + "role" + (char) c + "a" + (char) c + "1" + (char) c + "1" + (char) c + ";" + (char) c, 0, -1);
        }
        for (int c : new int[] {0, 8, 11, 12, 14, 31, 33, 127, 128, 137, 138, 141, 160, 255}) {
            D.fault("role" + (char) c + "a 1 1;", 1, 4);
            D.fault("seed 1;" + (char) c, 1, 7);
        }
        D.fault("role a1 1;says=if(1)<2then(3)else 4;", 0, -1);
        D.fault("says=if 1<2then 3else 4;", 0, -1);
        D.fault("role a1 1;says=if1<2then3else4;seed1;", 0, -1);
        D.fault("rolea 1 1;", 1, 0);
        D.fault("role a 11;", 1, 9);
        D.fault("role a 1 1; lis tener l 1 1 1;", 1, 12);
    }

    /** Each byte in a place where a NAME ends, where a text begins, and where an INT ends. */
    private static void everyByte() {
        D.sentence(4, "SIGNS ; = + - * / < ( ) . A longer one, all else, is no TOKEN.");
        for (int c = 0; c < 256; c++) {
            boolean blank = isIn(c, "\t\n\r ");
            boolean letter = c >= 'a' && c <= 'z';
            boolean digit = c >= '0' && c <= '9';
            boolean ends = blank || letter || digit;
            D.fault("role a" + (char) c + "1 1;", ends ? 0 : 1, ends ? -1 : 6);
            D.fault((char) c + "seed 1;", blank ? 0 : 1, blank ? -1 : 0);
            boolean joins = digit || isIn(c, "+-*/");
            boolean late = blank || c == ';';
            D.fault("says = 1" + (char) c + "2;", joins ? 0 : 1, joins ? -1 : late ? 9 : 8);
        }
    }

    private static void names() {
        D.sentence(4, "NAMES (letters a .. z, 8 at most, none of the words in quotes)");
        D.fault("role a 1 1;role z 1 1;", 0, -1);
        D.fault("role aaaaaaaa 1 1;role zzzzzzzz 1 1;", 0, -1);
        D.fault("role aaaaaaaaa 1 1;", 1, 5);
        D.fault("listener zzzzzzzz 1 1 1;", 0, -1);
        D.fault("listener zzzzzzzzz 1 1 1;", 1, 9);
        D.fault("role a`b 1 1;", 1, 6);
        D.fault("role a{ 1 1;", 1, 6);
        D.fault("role A 1 1;", 1, 5);
        D.fault("role Z 1 1;", 1, 5);
        D.fault("role aB 1 1;", 1, 6);
        D.fault("role a_b 1 1;", 1, 6);
        D.fault("role 1 1 1;", 1, 5);
        D.fault("role  1 1;", 1, 6);
    }

    private static void words() {
        D.sentence(4, "none of the words in quotes");
        for (String word : WORDS) {
            D.fault("role " + word + " 1 1;", 1, 5);
            D.fault("listener " + word + " 1 1 1;", 1, 9);
            D.fault("role a 1 1;listener l 1 1 1;really " + word + " a;", 1, 35);
            D.fault("role a 1 1;listener l 1 1 1;really l " + word + ";", 1, 37);
            String less = word.length() == 2 ? "f" : word.substring(1);
            D.fault("role " + less + " 1 1;", 0, -1);
            D.fault("role z" + less + " 1 1;", 0, -1);
        }
    }

    private static void ints() {
        D.sentence(4, "INTS (1 to 4 digits)");
        D.fault("seed 0;", 0, -1);
        D.fault("seed 9999;", 0, -1);
        D.fault("seed 0000;", 0, -1);
        D.fault("seed 00000;", 1, 5);
        D.fault("seed 10000;", 1, 5);
        D.fault("seed ;", 1, 5);
        D.fault("crackle 0100;quiet 0099;role a 0255 0009;", 0, -1);
        D.fault("quiet 00001;", 1, 6);
        D.fault("says = 9999;", 0, -1);
        D.fault("says = 10000;", 1, 7);
        D.fault("says = 1 + 00001;", 1, 11);
        D.fault("seed 1/;", 1, 6);
        D.fault("seed 1:;", 1, 6);
    }

    private static void longOnes() {
        D.sentence(4, "A longer one .. is no TOKEN");
        D.fault("role " + "a".repeat(1995), 1, 5);
        D.fault("seed " + "9".repeat(1995), 1, 5);
        D.fault("seed " + "0".repeat(32) + "1;", 1, 5);
        // of 65 letters only the last ones would be left in 64 bits
        D.fault("role " + "a".repeat(57) + "listener 1 1;", 1, 5);
        D.fault("a".repeat(61) + "role a 1 1;", 1, 0);
        D.fault("role a 1 1;" + "b".repeat(9), 1, 11);
        D.fault("says = " + "9".repeat(10) + ";", 1, 7);
    }

    // ---- the grammar

    private static final String[] ALL_OF_IT = ("role a 1 1 ; listener l 1 1 1 ; really l a ; says = fame ; trusts = ( 1 + 2 ) * 3 ;"
            + " moves = if 1 < 2 then 3 else if ( 1 ) < 2 then 3 - 1 else 4 / 2 ; rings = same ; crackle 1 ; quiet 1 ; seed 1 ;").split(" ");

    private static void cutShort() {
        D.sentence(5, "the text's end: its length");
        StringBuilder text = new StringBuilder();
        for (String token : ALL_OF_IT) {
            text.append(token);
            boolean whole = token.equals(";");
            D.fault(text.toString(), whole ? 0 : 1, whole ? -1 : text.length());
            text.append("\n ");
            D.fault(text.toString(), whole ? 0 : 1, whole ? -1 : text.length());
        }
    }

    private static void noTokenAnywhere() {
        D.sentence(5, "1 SYNTAX: a TOKEN, or what is none, with which no text goes on.");
        StringBuilder text = new StringBuilder();
        for (String token : ALL_OF_IT) {
            for (String none : new String[] {"#", "ninelette", "12345", "<<", "=="}) {
                boolean sign = none.equals("<<") && token.equals("<") || none.equals("==") && token.equals("=");
                D.fault(text + none, 1, text.length() + (sign ? 1 : 0));
            }
            text.append(token).append(' ');
        }
    }

    private static void emptyForms() {
        D.sentence(5, "1 SYNTAX: a form with a part that is left out");
        D.fault(";", 1, 0);
        D.fault("seed 1;;", 1, 7);
        D.fault("role;", 1, 4);
        D.fault("role a;", 1, 6);
        D.fault("role a 1;", 1, 8);
        D.fault("listener;", 1, 8);
        D.fault("listener l;", 1, 10);
        D.fault("listener l 1;", 1, 12);
        D.fault("listener l 1 1;", 1, 14);
        D.fault("really;", 1, 6);
        D.fault("really l;", 1, 8);
        for (String law : new String[] {"says", "trusts", "moves", "rings"}) {
            int n = law.length();
            D.fault(law + ";", 1, n);
            D.fault(law + "=;", 1, n + 1);
            D.fault(law + "=();", 1, n + 2);
            D.fault(law + "=1+;", 1, n + 3);
            D.fault(law + "=+1;", 1, n + 1);
            D.fault(law + "=-1;", 1, n + 1);
            D.fault(law + "=if<1then 1 else 1;", 1, n + 3);
            D.fault(law + "=if 1<then 1 else 1;", 1, n + 6);
            D.fault(law + "=if 1<1then else 1;", 1, n + 12);
            D.fault(law + "=if 1<1then 1else;", 1, n + 17);
        }
        D.fault("crackle;", 1, 7);
        D.fault("quiet;", 1, 5);
        D.fault("seed;", 1, 4);
    }

    private static void syntaxAtEnds() {
        D.sentence(5, "1 SYNTAX: a form with a part too many");
        D.fault("role a 1 1 1;", 1, 11);
        D.fault("role a b 1 1;", 1, 7);
        D.fault("listener l 1 1 1 1;", 1, 17);
        D.fault("really l a b;", 1, 11);
        D.fault("crackle 1 1;", 1, 10);
        D.fault("quiet 1 1;", 1, 8);
        D.fault("seed 1 1;", 1, 7);
        D.fault("says = 1 1;", 1, 9);
        D.fault("says = 1);", 1, 8);
        D.fault("says = (1));", 1, 10);
        D.fault("says = ((1);", 1, 11);
        D.fault("says = 1 < 2;", 1, 9);
        D.fault("says = if 1 < 2 < 3 then 1 else 1;", 1, 16);
        D.fault("says = if 1 < 2 then 1 else 1 else 1;", 1, 30);
        D.fault("says = = 1;", 1, 7);
    }

    // ---- ROOM

    private static void mostRoles() {
        D.sentence(4, "ROLES, 6 at most; 2 ROOM: one more of a sort than told (at its first TOKEN)");
        D.fault(SIX_ROLES, 0, -1);
        D.fault(SIX_ROLES + "role g 1 1;", 2, SIX_ROLES.length());
        D.fault(SIX_ROLES + "seed 1;  role g 1 1;", 2, SIX_ROLES.length() + 9);
        D.fault(SIX_ROLES + "role", 2, SIX_ROLES.length());
        D.fault(SIX_ROLES + SIX_LISTENERS + SIX_REALLY + "role f 1 1;", 2, (SIX_ROLES + SIX_LISTENERS + SIX_REALLY).length());
        D.due("the sixth one", Dues.voice(SIX_ROLES).role(5, 0), 32);
    }

    private static void mostListeners() {
        D.sentence(4, "LISTENERS, 6 at most; 2 ROOM: one more of a sort than told (at its first TOKEN)");
        D.fault(SIX_LISTENERS, 0, -1);
        D.fault(SIX_LISTENERS + "listener g 1 1 1;", 2, SIX_LISTENERS.length());
        D.fault(SIX_ROLES + SIX_LISTENERS, 0, -1);
        D.fault(SIX_ROLES + SIX_LISTENERS + " listener u 256", 2, (SIX_ROLES + SIX_LISTENERS).length() + 1);
        D.due("sets ON", Dues.voice(SIX_LISTENERS).count(6), 63);
    }

    private static void mostReally() {
        D.sentence(4, "REALLY, 6 at most; 2 ROOM: one more of a sort than told (at its first TOKEN)");
        String cast = SIX_ROLES + SIX_LISTENERS + SIX_REALLY;
        D.fault(cast, 0, -1);
        D.fault(cast + "really v a;", 2, cast.length());
        D.fault(cast + "really u a;", 2, cast.length());
        D.fault(cast + "really q q;", 2, cast.length());
        D.fault(cast + "\nreally", 2, cast.length() + 1);
        D.fault("really a b;".repeat(7), 2, 66);
        D.fault("really a b;".repeat(6), 4, 7);
        D.due("six of one", Dues.voice(cast).listener(0, 5), 63);
    }

    private static void mostTokens() {
        D.sentence(4, "2 ROOM: a 401st TOKEN");
        D.fault(FULL_OF_TOKENS, 0, -1);
        D.fault(FULL_OF_TOKENS + " ".repeat(1300), 0, -1);
        for (String word : WORDS) {
            boolean beginsTell = Arrays.asList(WORDS).indexOf(word) < 10;
            D.fault(FULL_OF_TOKENS + "  " + word, beginsTell ? 2 : 1, 702);
        }
        String less = "says=1;".repeat(99);
        D.fault(less + "seed 1; ", 0, -1);
        D.fault(less + "moves=1;", 0, -1);
        D.fault(less + "really a b;", 4, 700);
        D.fault(less + "moves=1*2;", 2, 701);
        D.fault(less + "moves=(1);", 2, 701);
        D.fault(less + "role a 1 1;", 2, 703);
        D.fault(less + "listener l 1 1 1;", 2, 708);
        D.fault(less + "role a 1 1", 1, 703);
    }

    private static void mostIfs() {
        D.sentence(4, "2 ROOM: a 5th if of a LAW (at it)");
        for (String law : new String[] {"says", "trusts", "moves", "rings"}) {
            String four = law + " = " + ONE_IF.repeat(4);
            D.fault(four + "5;", 0, -1);
            D.fault(four + ONE_IF + "5;", 2, four.length());
            D.fault(four + "if", 2, four.length());
            D.fault(four + "5;" + four + "5;", 0, -1);
        }
        VoiceTonight x = Dues.voice("role r 1 1; listener l 1 1 1; moves = if 1<0then 1 else if 1<0then 2 else if 1<0then 3 else if 0<1then 4 else 5;");
        D.due("the fourth if", x.tells(0, 0, 1), 4);
    }

    private static void mostOpened() {
        D.sentence(4, "2 ROOM: a 7th ( within one another (at it)");
        D.fault("says=((((((1))))));", 0, -1);
        D.fault("says=(((((((1)))))));", 2, 11);
        D.fault("says=(((((((", 2, 11);
        D.fault("says=((((((1+(2)))))));", 2, 13);
        D.fault("says=((((((1))))))*((((((2))))))-((((((3))))));", 0, -1);
        D.fault("says=(((((1)+(2)+(3)+(((4))))))));", 2, 23);
        D.fault("says=(((((1)+(2)+(3)+((4))))));", 0, -1);
        D.fault("moves=if((((((1))))))<((((((1))))))then((((((1))))))else((((((1))))));", 0, -1);
        D.fault("moves=if 1<(((((((1", 2, 17);
        D.fault("moves=if 1<2then(((((((1", 2, 22);
        D.fault("moves=if 1<2then 3else(((((((1", 2, 28);
        D.fault("says=((((((1(", 1, 12);
    }

    // ---- which FAULT it is

    private static void firstByPlace() {
        D.sentence(5, "FAULTS of a text, the first by its place");
        D.fault("# #", 1, 0);
        D.fault(SIX_ROLES + "role g # 1;", 2, SIX_ROLES.length());
        D.fault("seed #;" + SIX_ROLES + "role g 1 1;", 1, 5);
        D.fault("says=(((((((1#", 2, 11);
        D.fault("says=((((((1#(", 1, 12);
        D.fault("moves=" + ONE_IF.repeat(5) + "#", 2, 6 + 4 * ONE_IF.length());
        D.fault("moves=" + ONE_IF.repeat(4) + "#" + ONE_IF, 1, 6 + 4 * ONE_IF.length());
        D.fault(SIX_ROLES + "says=(((((((1;role", 2, SIX_ROLES.length() + 11);
        D.fault("role a 256 10;", 5, 7);
        D.fault("role a 1 10;role a 1 1;really q q;", 5, 9);
        D.fault("role a 1 1;role a 1 10;really q q;", 3, 16);
        D.fault("really q q;role a 1 1;role a 1 10;", 4, 7);
    }

    private static void leastOfOnePlace() {
        D.sentence(4, "of one place the least");
        D.fault(FULL_OF_TOKENS + ";", 1, 700);
        D.fault(FULL_OF_TOKENS + "#", 1, 700);
        D.fault(FULL_OF_TOKENS + "99999", 1, 700);
        D.fault(FULL_OF_TOKENS + "ninelette", 1, 700);
        D.fault(FULL_OF_TOKENS + "if", 1, 700);
        String less = "says=1;".repeat(99);
        D.fault(less + "moves=1+;", 1, 701);
        D.fault(less + "moves=1+", 1, 701);
        D.fault(less + "moves=1+#", 1, 701);
        D.fault(less + "really a b c", 1, 704);
    }

    private static void meaningsWaitForSyntax() {
        D.sentence(4, "If there is none, likewise");
        D.fault("role a 256 1;#", 1, 13);
        D.fault("role a 256 1", 1, 12);
        D.fault("role a 1 1;role a 1 1", 1, 21);
        D.fault("really a b", 1, 10);
        D.fault("quiet 0;says=(((((((1", 2, 19);
        D.fault("quiet 0;" + FULL_OF_TOKENS, 2, 8 + 7 * 99 + 4);
        D.fault("quiet 0;" + SIX_ROLES + "role", 2, 8 + SIX_ROLES.length());
    }

    private static void twice() {
        D.sentence(4, "3 TWICE: a NAME told already (of ROLES and LISTENERS together); (at the second NAME) REALLY of the same two twice.");
        D.fault("role a 1 1;role a 1 1;", 3, 16);
        D.fault("listener a 1 1 1;listener a 1 1 1;", 3, 26);
        D.fault("role a 1 1;listener a 1 1 1;", 3, 20);
        D.fault("listener a 1 1 1;role a 1 1;", 3, 22);
        D.fault("role a 1 1;role b 1 1;role c 1 1;role d 1 1;role e 1 1;role a 1 1;", 3, 60);
        D.fault("role aaaaaaaa 1 1;role aaaaaaa 1 1;role aaaaaaab 1 1;role baaaaaaa 1 1;", 0, -1);
        D.fault("role aaaaaaaa 1 1;role aaaaaaaa 1 1;", 3, 23);
        String cast = "role a 1 1;role b 1 1;listener l 1 1 1;listener m 1 1 1;";
        D.fault(cast + "really l a;really l b;really m a;really m b;", 0, -1);
        D.fault(cast + "really l a;really l a;", 3, cast.length() + 20);
        D.fault(cast + "really l a;really l b;really m a;really m b;really m b;really l a;", 3, cast.length() + 53);
    }

    private static void noSuchName() {
        D.sentence(4, "4 NAME: (at it) no such LISTENER, ROLE told ahead");
        String cast = "role a 1 1;listener l 1 1 1;";
        D.fault(cast + "really l a;", 0, -1);
        D.fault(cast + "really a l;", 4, cast.length() + 7);
        D.fault(cast + "really l l;", 4, cast.length() + 9);
        D.fault(cast + "really a a;", 4, cast.length() + 7);
        D.fault(cast + "really q q;", 4, cast.length() + 7);
        D.fault(cast + "really l q;", 4, cast.length() + 9);
        D.fault("role a 1 1;really l a;listener l 1 1 1;", 4, 18);
        D.fault("listener l 1 1 1;really l a;role a 1 1;", 4, 26);
        D.fault("really l a;", 4, 7);
    }

    private static void wrong() {
        D.sentence(4, "5 WRONG (at the INT): a number not as told above.");
        for (String most : new String[] {"0", "255"}) {
            D.fault("role a " + most + " 1;", 0, -1);
            D.fault("listener l " + most + " " + most + " 1;", 0, -1);
        }
        for (String more : new String[] {"256", "257", "511", "9999"}) {
            D.fault("role a " + more + " 1;", 5, 7);
            D.fault("listener l " + more + " 1 1;", 5, 11);
            D.fault("listener l 1 " + more + " 1;", 5, 13);
        }
        D.fault("role a 1 0;role b 1 9;", 0, -1);
        D.fault("role a 1 10;", 5, 9);
        D.fault("role a 1 9999;", 5, 9);
        D.fault("listener l 1 1 0;listener m 1 1 99;", 0, -1);
        D.fault("listener l 1 1 100;", 5, 15);
        D.fault("listener l 1 1 9999;", 5, 15);
        D.fault("crackle 0;crackle 100;", 0, -1);
        D.fault("crackle 101;", 5, 8);
        D.fault("crackle 9999;", 5, 8);
        D.fault("quiet 1;quiet 99;", 0, -1);
        D.fault("quiet 0;", 5, 6);
        D.fault("quiet 100;", 5, 6);
        D.fault("quiet 9999;", 5, 6);
        D.fault("seed 0;seed 9999;", 0, -1);
        D.fault("crackle 101;crackle 1;", 5, 8);
    }

    // ---- what a text changes

    private static VoiceTonight underway() {
        VoiceTonight x = Dues.voice("role a 3 2; role b 12 7; listener l 1 7 40; listener m 8 12 90; really m b; rings = 1; moves = 10;");
        x.announce(1);
        x.evenings(1);
        x.turn(0, false);
        x.announce(0);
        x.tellFact(1, true);
        x.hold(1);
        return x;
    }

    private static void faultChangesNothing() {
        D.sentence(4, "A text with a FAULT changes nothing but the tape");
        String ahead = "role z 1 1; listener y 1 1 1; says = 0; moves = 99; crackle 100; seed 7; quiet 9;";
        String[] faulty = {"#", "role", SIX_ROLES, "role z 1 1;", "really y y;", "quiet 0;"};
        int[] due = {1, 1, 2, 3, 4, 5};
        for (int i = 0; i < faulty.length; i++) {
            VoiceTonight x = underway();
            int[] before = Dues.all(x);
            Dues.put(x, ahead + faulty[i]);
            D.due("read() of .. " + faulty[i], x.read(), due[i]);
            D.unchanged("a text that ends with " + faulty[i], x, before);
            D.due("MOVES", x.tells(0, 0, 1), 10);
            D.due("who by what is TOLD", x.who(1, 1), 1);
            D.due("undo()", x.undo(), true);
            D.due("nobody is announced", x.count(3), -2);
            D.due("restore(1)", x.restore(1), true);
            D.due("announced", x.count(3), 0);
        }
    }

    private static void manyFaults() {
        D.sentence(4, "A text with a FAULT changes nothing but the tape (one behind the other, then one without)");
        String[] faulty = {"says=((((((", "moves=1+2*(3-4/(5+", "rings=if 1<2then 3else if 4<", "role a 1", "really a", SIX_ROLES + "role", "quiet 0;"};
        VoiceTonight x = new VoiceTonight();
        for (int i = 0; i < 35; i++) {
            Dues.put(x, faulty[i % faulty.length]);
            D.due("a FAULT of " + faulty[i % faulty.length], x.read() > 0, true);
        }
        Dues.put(x, "role r 1 4; listener l 15 255 60; moves = 1 + 2 * (3 + 4 * (5 - 6 / (1 + 1)));");
        D.due("read() without", x.read(), 0);
        D.due("place() without", x.place(), -1);
        D.due("ROLES", x.count(0), 1);
        D.due("TRUSTS", x.tells(0, 0, 0), 1);
        D.due("MOVES", x.tells(0, 0, 1), 23);
        D.due("RINGS", x.tells(0, 0, 2), 0);
    }

    private static void inPlaceOfTheOneAhead() {
        D.sentence(4, "evening 0, nobody announced, all sets ON; nothing can be undone, nothing is TOLD, SLOTS hold nothing.");
        VoiceTonight x = underway();
        x.hold(0);
        x.hold(2);
        Dues.put(x, "role a 3 2; role b 12 7; listener l 1 7 40; listener m 8 12 90; really m b; rings = 1; moves = 10;");
        D.due("read() of the same one", x.read(), 0);
        int[] due = {2, 2, 0, -2, 0, 0, 3, 2, 0, 0, 0, 0, 0, 0, 0, 3, 130, 2};
        for (int what = 0; what < due.length; what++) {
            D.due("count(" + what + ")", x.count(what), due[what]);
        }
        D.due("undo()", x.undo(), false);
        D.due("who(1, 0)", x.who(1, 0), -1);
        for (int slot = 0; slot < 3; slot++) {
            D.due("restore(" + slot + ")", x.restore(slot), false);
        }
        D.due("HEARD", x.role(1, 2), 0);
        D.due("QUIET", x.role(1, 3), 0);
    }
}
