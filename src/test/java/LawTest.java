/** LAWS, what they look at, and CRACKLE: promise 8, and 6, 12 of count, as far as they tell of it. */
public final class LawTest {
    private static final Dues D = new Dues();

    public static void main(String[] args) {
        sums();
        wrapping();
        ifs();
        byZero();
        saysLooksAt();
        listenersLookAt();
        held();
        noSuchOnes();
        lastOneCounts();
        crackle();
        D.end();
    }

    /** What a law of moves tells, between -99 and 99. */
    private static void moves(String law, int due) {
        VoiceTonight x = Dues.voice("role r 1 3; listener l 1 1 40; moves = " + law + ";");
        D.due("moves = " + law, x.tells(0, 0, 1), due);
    }

    private static void sums() {
        moves("7", 7);
        moves("7 - 2 - 3", 2);
        moves("7 - (2 - 3)", 8);
        moves("2 + 3 * 4", 14);
        moves("2 * 3 + 4", 10);
        moves("(2 + 3) * 4", 20);
        moves("60 / 6 / 5", 2);
        moves("60 / (6 / 5)", 60);
        moves("7 * 3 / 2", 10);
        moves("7 / 2 * 3", 9);
        moves("(0 - 7) / 2", -3);
        moves("7 / (0 - 2)", -3);
        moves("(0 - 7) / (0 - 2)", 3);
        moves("1 - 2 * 3 + 4 * 5 - 6 / 2", 12);
        moves("((((((1)))))) + 2 * ((3 - (1)) * (2))", 9);
        moves("1+2*(3+4*(5-(6-(7-(8-6)))))", 39);
    }

    private static void wrapping() {
        // 999700029999 is -1027349969 in 32 bits
        moves("9999 * 9999 * 9999", -99);
        moves("0 - 9999 * 9999 * 9999", 99);
        // 65536 * 65536 is 0 in 32 bits
        moves("256 * 256 * 256 * 256 + 5", 5);
        moves("256 * 256 * 256 * 128 / 256 / 256 / 256", -99);
        moves("256 * 256 * 256 * 128 / (256 * 256 * 256 * 4)", -32);
        // the least int by -1 is itself
        moves("256 * 256 * 256 * 128 / (0 - 1) / (256 * 256 * 256 * 4)", -32);
        moves("if 256 * 256 * 256 * 128 < 0 then 1 else 2", 1);
    }

    private static void ifs() {
        moves("if 1 < 2 then 10 else 20", 10);
        moves("if 2 < 2 then 10 else 20", 20);
        moves("if 3 < 2 then 10 else 20", 20);
        moves("if 2 < 1 then 10 else if 1 < 2 then 20 else 30", 20);
        moves("if 1 < 2 then 10 else if 1 < 2 then 20 else 30", 10);
        moves("if 2 < 1 then 10 else if 2 < 2 then 20 else 30", 30);
        moves("if 1<0 then 1 else if 1<0 then 2 else if 1<0 then 3 else if 1<0 then 4 else 5", 5);
        moves("if 1<0 then 1 else if 1<0 then 2 else if 1<0 then 3 else if 1<2 then 4 else 5", 4);
        moves("if 1<0 then 1 else if 1<0 then 2 else if 0<1 then 3 else if 1<2 then 4 else 5", 3);
        moves("if fame * 2 - 1 < (belief + 1) / 7 then 0 - fame else fame + 1", 4);
    }

    private static void byZero() {
        moves("5 / 0", 0);
        moves("5 + 5 / 0", 0);
        moves("5 + 0 * (5 / (3 - 3))", 0);
        moves("if 1 < 2 then 10 else 20 / 0", 10);
        moves("if 2 < 1 then 10 / 0 else 20", 20);
        moves("if 1 < 2 then 10 / 0 else 20", 0);
        moves("if 1 / 0 < 2 then 10 else 20", 0);
        moves("if 1 < 2 / 0 then 10 else 20", 0);
        moves("if 0 - 1 < 1 / 0 then 10 else 20", 0);
        moves("if 2 < 1 then 1 else if 1 / 0 < 1 then 2 else 3", 0);
        moves("if 1 < 2 then 1 else if 1 / 0 < 1 then 2 else 3", 1);
        VoiceTonight x = Dues.voice("role r 7 1; listener l 0 1 1; says = 4 / (2 - fact) + 1; trusts = 1 / times; rings = 1 / same;");
        D.due("SAYS by 0 of a FACT alone", x.role(0, 5), 3);
        D.due("TRUSTS by 0", x.tells(0, 0, 0), 0);
        D.due("RINGS by 0", x.tells(0, 0, 2), 0);
    }

    private static void saysLooksAt() {
        D.due("a FACT not KNOWN", Dues.voice("role r 0 1;").role(0, 5), 0);
        D.due("SAYS if not told", Dues.voice("role r 170 1;").role(0, 5), 170);
        D.due("SAYS 0", Dues.voice("role r 170 1; says = 0;").role(0, 5), 0);
        D.due("SAYS below 0", Dues.voice("role r 170 1; says = 0 - 1;").role(0, 5), 0);
        D.due("SAYS by fact", Dues.voice("role r 255 1; says = fact - 4;").role(0, 5), 0xe0);
        D.due("SAYS by fame", Dues.voice("role r 255 6; says = fame - fact;").role(0, 5), 0x3f);
        D.due("SAYS by which", Dues.voice("role a 1 1; role b 1 1; role r 255 6; says = which * 2 - fact;").role(2, 5), 0x0f);
        for (String var : new String[] {"belief", "known", "parts", "same"}) {
            D.due("SAYS by " + var, Dues.voice("role r 255 6; listener l 255 1 99; really l r; says = " + var + ";").role(0, 5), 0);
        }
        VoiceTonight x = Dues.voice("role r 255 6; role q 1 1; says = times - fact;");
        D.due("SAYS by times 0", x.role(0, 5), 0);
        x.announce(0);
        x.evenings(1);
        x.announce(0);
        x.evenings(3);
        D.due("SAYS by times 2", x.role(0, 5), 3);
        x.announce(1);
        D.due("SAYS by times 2, another one announced", x.role(0, 5), 3);
        x.evenings(1);
        D.due("SAYS by times 2, another one heard", x.role(0, 5), 3);
        D.due("SAYS by times 1 of the other", x.role(1, 5), 1);
        x = Dues.voice("role r 255 6; says = evening - fact;");
        x.evenings(5);
        D.due("SAYS by evening 5", x.role(0, 5), 31);
    }

    private static void listenersLookAt() {
        String cast = "role a 1 4; role r 7 6; listener k 3 1 20; listener l 30 1 77; really l r; says = 2 - fact; moves = ";
        String[] laws = {"fame", "times", "fact", "evening", "belief", "known", "parts", "which", "same"};
        int[] due = {6, 0, 0, 0, 77, 4, 2, 1, 1};
        int[] dueLater = {6, 1, 0, 3, 77, 5, 2, 1, 1};
        int[] dueOther = {4, 0, 0, 3, 20, 2, 1, 0, 0};
        for (int i = 0; i < laws.length; i++) {
            VoiceTonight x = Dues.voice(cast + "if evening < 1 then 0 else " + laws[i] + ";");
            x.announce(1);
            x.evenings(3);
            D.due("MOVES by " + laws[i], x.tells(1, 1, 1), dueLater[i]);
            D.due("MOVES of another by " + laws[i], x.tells(0, 0, 1), dueOther[i]);
            x = Dues.voice(cast + laws[i] + "; trusts = " + laws[i] + "; rings = " + laws[i] + ";");
            D.due("MOVES at first by " + laws[i], x.tells(1, 1, 1), due[i]);
            D.due("TRUSTS at first by " + laws[i], x.tells(1, 1, 0), due[i] > 0 ? 1 : 0);
            D.due("RINGS at first by " + laws[i], x.tells(1, 1, 2), due[i] > 0 ? 1 : 0);
        }
    }

    private static void held() {
        moves("99", 99);
        moves("100", 99);
        moves("0 - 99", -99);
        moves("0 - 100", -99);
        moves("0 - 9999", -99);
        VoiceTonight x = Dues.voice("role r 1 3; listener l 1 1 40; trusts = 0 - 5; rings = 7;");
        D.due("TRUSTS below 0", x.tells(0, 0, 0), 0);
        D.due("RINGS, REALLY or not", x.tells(0, 0, 2), 1);
    }

    private static void noSuchOnes() {
        VoiceTonight x = Dues.voice("role r 1 3; listener l 1 1 40; moves = 5;");
        D.due("tells(0, 0, 1)", x.tells(0, 0, 1), 5);
        D.due("tells(-1, 0, 1)", x.tells(-1, 0, 1), -100);
        D.due("tells(1, 0, 1)", x.tells(1, 0, 1), -100);
        D.due("tells(0, -1, 1)", x.tells(0, -1, 1), -100);
        D.due("tells(0, 1, 1)", x.tells(0, 1, 1), -100);
        D.due("tells(0, 0, -1)", x.tells(0, 0, -1), -100);
        D.due("tells(0, 0, 3)", x.tells(0, 0, 3), -100);
    }

    private static void lastOneCounts() {
        VoiceTonight x = Dues.voice("role r 1 3; listener l 1 1 40; moves = if 1 < 2 then 5 else 6; trusts = 0; moves = 7;"
                + "crackle 100; crackle 0; quiet 9; quiet 1; rings = 1; really l r;");
        D.due("the last MOVES", x.tells(0, 0, 1), 7);
        D.due("the last CRACKLE", x.count(12), 0);
        x.announce(0);
        x.evenings(1);
        D.due("the last QUIET", x.role(0, 3), 1);
    }

    private static void crackleIs(int seed, int crackle, int evening, int due) {
        VoiceTonight x = Dues.voice("seed " + seed + "; crackle " + crackle + ";");
        for (int left = evening; left > 0; left -= 30) {
            x.evenings(Math.min(30, left));
        }
        D.due("CRACKLE " + crackle + " of seed " + seed + " in evening " + evening, x.count(12), due);
    }

    /** LOTs of 100, worked out apart from the class. */
    private static void crackle() {
        int[] seeds = {0, 1, 7, 9999};
        int[][] lots = {
            {49, 88, 83, 50, 80, 55, 14, 10, 15, 70, 5, 85},
            {94, 25, 80, 76, 93, 48, 72, 43, 40, 87, 67, 62},
            {48, 21, 83, 15, 23, 36, 14, 95, 54, 63, 85, 62},
            {31, 22, 50, 13, 44, 19, 35, 30, 37, 73, 44, 91}};
        for (int i = 0; i < seeds.length; i++) {
            for (int evening = 0; evening < 12; evening++) {
                crackleIs(seeds[i], lots[i][evening], evening, 0);
                crackleIs(seeds[i], lots[i][evening] + 1, evening, 1);
            }
            crackleIs(seeds[i], 0, 5, 0);
            crackleIs(seeds[i], 100, 5, 1);
        }
    }
}
