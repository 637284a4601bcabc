/** Runs of calls that a fixed row of numbers chooses, answered by the class and by the Model alike. */
public final class FuzzTest {
    private static final String[] NAMES = {"a", "b", "lady", "herring", "z", "bishops", "ofwhales", "q", "k", "m", "n", "o", "p", "ann"};
    private static final String[] VARS = {"fame", "times", "fact", "evening", "belief", "known", "parts", "which", "same"};
    private static final String[] LAWS = {"says", "trusts", "moves", "rings"};
    private static final String[] BITS_OF_TEXT = {"role", "listener", "if", "then", "else", "(", ")", ";", "<", "=", "+", "-", "*", "/",
        "1", "300", "12345", "x", "same", "really", "seed", "#", "ninelette", "\u00e9", "A", "quiet 0;", "crackle 101;", "a b;",
        "really a b;", "((((((", "says=((((((1))))));", "moves=(((((((1)))))));"};

    private long state;

    private FuzzTest(long seed) {
        state = seed * 7919 + 17;
    }

    private int below(int n) {
        state = state * 6364136223846793005L + 1442695040888963407L;
        return (int) ((state >>> 33) % n);
    }

    private boolean coin() {
        return below(2) == 0;
    }

    private String pick(String[] of) {
        return of[below(of.length)];
    }

    private String blank() {
        return new String[] {" ", "  ", "\n", "\t", "\r "}[below(5)];
    }

    private String unit(int depth) {
        int kind = below(6);
        if (kind < 2) {
            return "" + below(coin() ? 10 : 10000);
        }
        if (kind < 5 || depth > 4) {
            return pick(VARS);
        }
        return "(" + e(depth + 1) + ")";
    }

    private String e(int depth) {
        StringBuilder b = new StringBuilder(unit(depth));
        for (int i = below(4); i > 0; i--) {
            b.append(new String[] {"+", "-", " * ", " / ", "-", "*"}[below(6)]).append(unit(depth));
        }
        return b.toString();
    }

    private String law() {
        StringBuilder b = new StringBuilder(pick(LAWS)).append(coin() ? "=" : " = ");
        for (int i = below(3) * below(3); i > 0; i--) {
            b.append("if ").append(e(0)).append(" < ").append(e(0)).append(" then ").append(e(0)).append(" else ");
        }
        return b.append(e(0)).append(";").toString();
    }

    /** A law that keeps answers moving, so that not all evenings are alike. */
    private String likelyLaw() {
        return new String[] {"says = 3 - times / 3;", "says = if fact < 3 + which then 1 else times;", "trusts = belief - fame * 6;",
            "trusts = if belief < 50 then same else 1;", "trusts = 9 / times;", "moves = parts - 2;", "moves = 7 * which - 9 + evening;",
            "rings = 1;", "rings = fame - 4;", "rings = 2 - times;", "moves = 40 * (1 - 2 * same);", "trusts = known - parts + evening;",
            "says = 5 - fact - evening;", "crackle 50;", "crackle 30;", "quiet 1;", "quiet 2;", "seed 77;"}[below(18)];
    }

    private String text(boolean spoil) {
        StringBuilder b = new StringBuilder();
        int roles = below(8) == 0 ? below(8) : 2 + below(5);
        int listeners = below(8) == 0 ? below(8) : 2 + below(5);
        int first = below(NAMES.length);
        for (int i = 0; i < roles; i++) {
            String name = below(60) == 0 ? pick(NAMES) : NAMES[(first + i) % NAMES.length];
            b.append("role ").append(name).append(blank()).append(below(256)).append(' ').append(below(10)).append(coin() ? ";" : " ;");
        }
        for (int i = 0; i < listeners; i++) {
            b.append("listener ").append(NAMES[(first + roles + i) % NAMES.length]).append(' ').append(below(256) & below(256)).append(' ');
            b.append(below(256) & below(256)).append(' ').append(below(100)).append(';').append(coin() ? blank() : "");
        }
        int pairs = roles * listeners;
        int start = below(pairs + 1);
        for (int i = below(pairs > 6 ? 7 : pairs + 1); i > 0; i--) {
            int pair = below(50) == 0 ? below(pairs) : (start + i * 11) % pairs;
            String listener = NAMES[(first + roles + pair / roles) % NAMES.length];
            b.append("really ").append(listener).append(' ').append(NAMES[(first + pair % roles) % NAMES.length]).append(';');
        }
        for (int i = 1 + below(6); i > 0; i--) {
            b.append(coin() ? law() : likelyLaw());
        }
        if (coin()) {
            b.append("crackle ").append(below(101)).append("; seed ").append(below(10000)).append(';');
        }
        if (coin()) {
            b.append("quiet ").append(1 + below(4)).append("; ");
        }
        return spoil ? spoilt(b) : b.toString();
    }

    private String spoilt(StringBuilder b) {
        for (int i = 1 + below(2); i > 0; i--) {
            int at = below(b.length() + 1);
            int kind = below(4);
            if (kind == 0) {
                b.insert(at, pick(BITS_OF_TEXT));
            } else if (kind == 1) {
                b.insert(at, " " + pick(BITS_OF_TEXT) + " ");
            } else if (kind == 2) {
                b.delete(at, Math.min(b.length(), at + 1 + below(4)));
            } else {
                b.append(law().repeat(1 + below(12)));
            }
        }
        return b.toString();
    }

    private int index() {
        return below(20) == 0 ? new int[] {-1, 6, 7, -2, 32, Integer.MAX_VALUE, Integer.MIN_VALUE}[below(7)] : below(6);
    }

    private int evenings() {
        return below(20) == 0 ? new int[] {-1, 31, 32, Integer.MIN_VALUE}[below(4)] : coin() ? below(4) : below(31);
    }

    private void put(VoiceTonight x, Model m, String text, Dues dues) {
        String shown = text.length() > 2000 ? text.substring(0, 2000) : text;
        int[] w = Dues.fourBytesEach(shown);
        for (int i = 0; i < w.length; i += 5) {
            dues.due("feed", x.feed(w[i], w[i + 1], w[i + 2], w[i + 3], w[i + 4]), m.feed(w[i], w[i + 1], w[i + 2], w[i + 3], w[i + 4]));
        }
        int n = w.length * 4 - shown.length();
        dues.due("back", x.back(n), m.back(n));
        String call = "read() of \"" + shown + "\"";
        dues.due(call, x.read(), m.read());
        dues.due("place() of \"" + shown + "\"", x.place(), m.place());
    }

    private static void clearTape(VoiceTonight x, Model m, Dues dues) {
        int n = m.count(8);
        dues.due("back", x.back(n), m.back(n));
    }

    private void call(VoiceTonight x, Model m, Dues d) {
        int a = index();
        int b = index();
        int c = index();
        int n = evenings();
        boolean yes = coin();
        switch (below(66)) {
            case 0: d.due("role", x.role(a, b), m.role(a, b)); break;
            case 1: d.due("listener", x.listener(a, b), m.listener(a, b)); break;
            case 2: case 3: d.due("tells", x.tells(a, b, c % 4), m.tells(a, b, c % 4)); break;
            case 4: case 5: case 6: case 7: case 8: case 9: d.due("announce", x.announce(a), m.announce(a)); break;
            case 10: d.due("turn", x.turn(a, yes), m.turn(a, yes)); break;
            case 11: d.due("inform", x.inform(a, b + c), m.inform(a, b + c)); break;
            case 12: d.due("talk", x.talk(a, b), m.talk(a, b)); break;
            case 13: case 14: case 15: case 16: case 17: d.due("evenings", x.evenings(n), m.evenings(n)); break;
            case 18: case 19: d.due("evenings", x.evenings(1), m.evenings(1)); break;
            case 20: d.due("undo", x.undo(), m.undo()); break;
            case 21: case 22: d.due("tonight", x.tonight(a, b), m.tonight(a, b)); break;
            case 23: d.due("best", x.best(a % 3), m.best(a % 3)); break;
            case 24: if (below(4) == 0) { d.due("plan", x.plan(a - 1, b - 1), m.plan(a - 1, b - 1)); } break;
            case 25: d.due("star", x.star(a % 3), m.star(a % 3)); break;
            case 26: d.due("credit", x.credit(a), m.credit(a)); break;
            case 27: d.due("missing", x.missing(a), m.missing(a)); break;
            case 28: d.due("holders", x.holders(a + b % 3), m.holders(a + b % 3)); break;
            case 29: d.due("rarest", x.rarest(a % 3), m.rarest(a % 3)); break;
            case 30: d.due("series", x.series(a, n), m.series(a, n)); break;
            case 31: d.due("longOf", x.longOf(a, b), m.longOf(a, b)); break;
            case 32: d.due("callers", x.callers(a), m.callers(a)); break;
            case 33: d.due("sway", x.sway(a), m.sway(a)); break;
            case 34: d.due("circle", x.circle(a, b % 3), m.circle(a, b % 3)); break;
            case 35: d.due("doubles", x.doubles(), m.doubles()); break;
            case 36: d.due("faith", x.faith(n), m.faith(n)); break;
            case 37: d.due("never", x.never(a), m.never(a)); break;
            case 38: d.due("apart", x.apart(a % 3), m.apart(a % 3)); break;
            case 39: d.due("unlike", x.unlike(a, b), m.unlike(a, b)); break;
            case 40: d.due("rumour", x.rumour(a % 3), m.rumour(a % 3)); break;
            case 41: d.due("talks", x.talks(a), m.talks(a)); break;
            case 42: d.due("then", x.then(a, n, b % 3), m.then(a, n, b % 3)); break;
            case 43: d.due("quietIn", x.quietIn(a, n), m.quietIn(a, n)); break;
            case 44: if (below(4) == 0) { d.due("sure", x.sure(a, b, n, c + 1), m.sure(a, b, n, c + 1)); } break;
            case 45: case 46: d.due("tellFact", x.tellFact(a + b, yes), m.tellFact(a + b, yes)); break;
            case 47: case 48: d.due("tellDone", x.tellDone(a, yes), m.tellDone(a, yes)); break;
            case 49: if (below(5) == 0) { d.due("forget", x.forget(), m.forget()); } break;
            case 50: case 51: d.due("who", x.who(a, b % 3), m.who(a, b % 3)); break;
            case 52: d.due("ask", x.ask(a), m.ask(a)); break;
            case 53: d.due("hold", x.hold(a - 1), m.hold(a - 1)); break;
            case 54: if (coin()) { d.due("restore", x.restore(a - 1), m.restore(a - 1)); } break;
            case 55: d.due("place", x.place(), m.place()); break;
            case 56: d.due("back", x.back(a), m.back(a)); break;
            case 57: if (below(3) == 0) { d.due("feed", x.feed(a, b, c, n, a), m.feed(a, b, c, n, a)); } break;
            case 58: if (below(12) == 0) { clearTape(x, m, d); put(x, m, text(coin()), d); } break;
            default: int what = below(20) - 1; d.due("count(" + what + ")", x.count(what), m.count(what)); break;
        }
    }

    private static boolean run(int seed, Dues dues) {
        FuzzTest f = new FuzzTest(seed);
        VoiceTonight x = new VoiceTonight();
        Model m = new Model();
        int before = dues.wrong();
        f.put(x, m, f.text(true), dues);
        f.put(x, m, f.text(false), dues);
        for (int i = 0; i < 300 && dues.wrong() == before; i++) {
            f.call(x, m, dues);
        }
        for (int what = -1; what < 19 && dues.wrong() == before; what++) {
            dues.due("count(" + what + ")", x.count(what), m.count(what));
        }
        if (dues.wrong() != before) {
            System.out.println(".. in run " + seed);
        }
        return dues.wrong() < 20;
    }

    public static void main(String[] args) {
        int runs = args.length > 0 ? Integer.parseInt(args[0]) : 900;
        Dues dues = new Dues();
        for (int seed = 0; seed < runs && run(seed, dues); seed++) {
            continue;
        }
        dues.end();
    }
}
