import java.util.ArrayList;
import java.util.List;
import java.util.NoSuchElementException;
import java.util.Random;

/** Random texts and calls: ColdFeet answers as Naive does, and throws nothing else. */
final class AlikeTest {
    private static final int NO_MAN = -1000001;
    private static final int NO_WHAT = -1000002;
    private static final String[] TOKENS = ("man thing look crowd heat gust risk seed law dare after hurt or and not fear"
        + " rue skill looks hot depth step ; ; ( ) < <= = <> >= > + - * / 0 1 9 10 99 100 999 1000 9999 10000 a b c t u"
        + " abcdef abcdefg ! A < = > \n").split(" ");

    private static final int[] FAR = {Integer.MIN_VALUE, Integer.MIN_VALUE + 1, -1000000, 1 << 30, Integer.MAX_VALUE};

    private final Random random;
    private final ColdFeet feet = new ColdFeet();
    private final Naive naive = new Naive();
    private int men;
    private int things;

    private AlikeTest(long seed) {
        random = new Random(seed);
    }

    public static void main(String[] args) {
        int runs = args.length > 0 ? Integer.parseInt(args[0]) : 400;
        for (int run = 0; run < runs; run++) {
            new AlikeTest(run).texts(run);
        }
        for (int run = 0; run < runs; run++) {
            new AlikeTest(1000000 + run).calls(run);
        }
        Check.end();
    }

    private int below(int n) {
        return random.nextInt(n);
    }

    private int from(int least, int most) {
        return least + below(most - least + 1);
    }

    // ---- texts

    private void texts(int run) {
        for (int k = 0; k < 30; k++) {
            String text = below(3) == 0 ? spoilt(text()) : spoilt(spoilt(tokens()));
            if (text.length() <= 700) {
                tell(run, text);
            }
        }
    }

    private void tell(int run, String text) {
        int length = Check.feed(feet, text);
        byte[] bytes = text.getBytes(java.nio.charset.StandardCharsets.ISO_8859_1);
        for (int at = 0; at < bytes.length; at += 20) {
            naive.feed(Check.four(bytes, at), Check.four(bytes, at + 4), Check.four(bytes, at + 8),
                Check.four(bytes, at + 12), Check.four(bytes, at + 16));
        }
        int cut = below(5) == 0 ? below(length + 1) : length;
        String what = "run " + run + ", text " + cut + " of: " + text + ": ";
        Check.same(what + "text", feet.text(cut), naive.text(cut));
        Check.same(what + "fault(0)", feet.fault(0), naive.fault(0));
        Check.same(what + "fault(1)", feet.fault(1), naive.fault(1));
        for (int k = 0; k < 3; k++) {
            Check.same(what + "count(" + k + ")", feet.count(k), naive.count(k));
        }
        men = naive.count(0);
        things = naive.count(1);
    }

    private String tokens() {
        StringBuilder text = new StringBuilder();
        for (int k = below(4); k > 0; k--) {
            text.append(line(k));
        }
        for (int k = below(12); k > 0; k--) {
            text.append(TOKENS[below(TOKENS.length)]).append(below(4) == 0 ? "" : " ");
        }
        return text.toString();
    }

    private String line(int k) {
        char name = (char) ('a' + k % 26);
        switch (below(9)) {
            case 0: return "man " + name + " " + from(0, 99) + " " + from(0, 99) + " " + from(1, 9) + ";";
            case 1: return "thing " + name + " " + from(1, 99) + " " + from(1, 6) + " " + from(0, 99) + ";";
            case 2: return "look " + name + " " + from(0, 99) + " " + from(1, 99) + ";";
            case 3: return "crowd " + from(0, 999) + ";";
            case 4: return "seed " + from(0, 99999) + ";";
            case 5: return "heat " + from(0, 9) + ";";
            case 6: return "gust " + from(0, 100) + ";";
            case 7: return "law dare " + formula(below(9)) + ";";
            default: return "law hurt " + formula(below(6)) + ";";
        }
    }

    /** A text with a sign or a token changed, left out or put in, or as it was. */
    private String spoilt(String text) {
        int at = below(text.length() + 1);
        String token = TOKENS[below(TOKENS.length)];
        switch (below(6)) {
            case 0: return text.substring(0, at) + token + text.substring(at);
            case 1: return text.substring(0, at) + " " + token + " " + text.substring(at);
            case 2: return text.substring(0, at) + text.substring(Math.min(text.length(), at + 1 + below(4)));
            case 3: return text.substring(0, at);
            case 4: return text.substring(0, at) + (char) below(256) + text.substring(Math.min(text.length(), at + 1));
            default: return text;
        }
    }

    private String formula(int depth) {
        switch (depth <= 0 ? below(2) : below(9)) {
            case 0: return "" + (below(4) == 0 ? from(0, 9999) : from(0, 30));
            case 1: return Naive.NAMES.get(below(7));
            case 2: return formula(depth - 1) + "+" + formula(depth - 2);
            case 3: return formula(depth - 2) + " - " + formula(depth - 1);
            case 4: return formula(depth - 1) + "*" + formula(depth - 3);
            case 5: return formula(depth - 2) + "/" + formula(depth - 2);
            case 6: return "(" + formula(depth - 1) + ")";
            case 7: return formula(depth - 2) + (below(2) == 0 ? " and " : " or ") + formula(depth - 1);
            default: return below(2) == 0 ? "(not " + formula(depth - 1) + ")"
                : "(" + formula(depth - 2) + new String[] {"<", "<=", "=", "<>", ">=", ">"}[below(6)] + "("
                    + formula(depth - 2) + "))";
        }
    }

    private String text() {
        List<String> lines = new ArrayList<>();
        int told = from(0, 6);
        for (int k = 0; k < told; k++) {
            int fear = from(0, 60);
            lines.add("man " + (char) ('a' + k) + " " + fear + " " + Math.max(0, Math.min(99, fear + from(-25, 10))) + " "
                + from(1, 9) + ";");
        }
        for (int k = from(0, 8); k > 0; k--) {
            lines.add("thing " + (char) ('s' + k % 8) + " " + from(1, 99) + " " + from(1, 4) + " "
                + (below(3) == 0 ? from(0, 9) : from(0, 99)) + ";");
        }
        for (int k = told == 0 ? 0 : from(0, 10); k > 0; k--) {
            lines.add("look " + (char) ('a' + below(told)) + " " + from(0, 9) + " " + from(1, 40) + ";");
        }
        String[] settings = {"crowd " + from(0, 200), "heat " + from(0, 2), "gust " + from(0, 100),
            "risk " + (below(2) == 0 ? from(0, 20) : from(0, 100)), "seed " + from(0, 99999)};
        for (String setting : settings) {
            if (below(2) == 0) {
                lines.add(setting + ";");
            }
        }
        for (String rule : new String[] {"dare", "after", "hurt"}) {
            if (below(3) == 0) {
                lines.add("law " + rule + " " + law(rule) + ";");
            }
        }
        return String.join("", lines);
    }

    private String law(String rule) {
        if (below(2) == 0) {
            return formula(below(5));
        }
        switch (rule) {
            case "dare": return below(2) == 0 ? "looks+rue>fear+depth*2" : "step>=" + from(0, 20) + " and looks*3>hot";
            case "after": return below(2) == 0 ? "depth-3" : "5-rue/4";
            default: return below(2) == 0 ? "hot+depth*5" : "100/(step-" + from(0, 9) + ")";
        }
    }

    // ---- calls

    private void calls(int run) {
        // texts ahead, so that what is left of them would show
        for (int k = 1 + run % 4; k > 0; k--) {
            String text = text();
            while (text.length() > 700) {
                text = text();
            }
            tell(run, text);
        }
        for (int k = 0; k < 300; k++) {
            call("run " + run + ", call " + k + ": ");
        }
    }

    private int man() {
        return near(0, Math.max(0, men - 1));
    }

    private int thing() {
        return near(0, Math.max(0, things - 1));
    }

    /** Mostly as is due, sometimes one beside, or far away. */
    private int near(int least, int most) {
        if (below(100) == 0) {
            return FAR[below(FAR.length)];
        }
        return below(12) == 0 ? from(least - 2, most + 2) : from(least, most);
    }

    private static int manOf(ColdFeet feet, int man, int what) {
        try {
            return feet.man(man, what);
        } catch (IndexOutOfBoundsException e) {
            return NO_MAN;
        } catch (NoSuchElementException e) {
            return NO_WHAT;
        }
    }

    private static int manOf(Naive naive, int man, int what) {
        try {
            return naive.man(man, what);
        } catch (IndexOutOfBoundsException e) {
            return NO_MAN;
        } catch (NoSuchElementException e) {
            return NO_WHAT;
        }
    }

    private void call(String run) {
        int m = man();
        int o = man();
        int t = thing();
        boolean is = below(2) == 0;
        int a;
        int b;
        switch (below(34)) {
            case 0: a = near(0, 8); Check.same(run + "man " + m + " " + a, manOf(feet, m, a), manOf(naive, m, a)); break;
            case 1: a = near(0, 4); Check.same(run + "thing " + t + " " + a, feet.thing(t, a), naive.thing(t, a)); break;
            case 2: a = near(0, 2); Check.same(run + "law " + a + " " + m, feet.law(a, m), naive.law(a, m)); break;
            case 3: a = near(1, 20); Check.same(run + "pay " + m + " " + a, feet.pay(m, a), naive.pay(m, a)); break;
            case 4: Check.same(run + "swap " + m + " " + o, feet.swap(m, o), naive.swap(m, o)); break;
            case 5: Check.same(run + "hold " + m + " " + is, feet.hold(m, is), naive.hold(m, is)); break;
            case 6: a = near(1, 20); Check.same(run + "wet " + t + " " + a, feet.wet(t, a), naive.wet(t, a)); break;
            case 7: a = below(9) == 0 ? near(0, 99) : below(3); Check.same(run + "go " + a, feet.go(a), naive.go(a)); break;
            case 8: a = near(0, 99); b = near(0, 4);
                Check.same(run + "ahead " + a + " " + b, feet.ahead(a, b), naive.ahead(a, b)); break;
            case 9: Check.same(run + "goes " + m, feet.goes(m), naive.goes(m)); break;
            case 10: Check.same(run + "out " + t, feet.out(t), naive.out(t)); break;
            case 11: Check.same(run + "premium " + m, feet.premium(m), naive.premium(m)); break;
            case 12: a = near(0, 6); Check.same(run + "cover " + a, feet.cover(a), naive.cover(a)); break;
            case 13: if (below(4) == 0) {
                a = near(0, 6); Check.same(run + "match " + a, feet.match(a), naive.match(a)); } break;
            case 14: if (below(4) == 0) {
                a = near(0, 4); Check.same(run + "order " + a, feet.order(a), naive.order(a)); } break;
            case 15: Check.same(run + "rests " + m + " " + o, feet.rests(m, o), naive.rests(m, o)); break;
            case 16: a = near(0, 2); Check.same(run + "rest " + m + " " + o + " " + a, feet.rest(m, o, a),
                naive.rest(m, o, a)); break;
            case 17: a = near(0, 6); b = near(0, 1);
                Check.same(run + "comesBack " + a + " " + b, feet.comesBack(a, b), naive.comesBack(a, b)); break;
            case 18: a = near(0, 99); Check.same(run + "widow " + m + " " + a, feet.widow(m, a), naive.widow(m, a)); break;
            case 19: Check.same(run + "next " + t, feet.next(t), naive.next(t)); break;
            case 20: a = below(2) == 0 ? near(1, 60) : from(1, 9); boolean isSo = below(6) == 0 ? is : isSaved(t, a);
                Check.same(run + "see " + a + " " + t + " " + isSo, feet.see(a, t, isSo), naive.see(a, t, isSo)); break;
            case 21: a = near(0, 24); Check.same(run + "strike " + a, feet.strike(a), naive.strike(a)); break;
            case 22: a = near(-1, 24); Check.same(run + "known " + a, feet.known(a), naive.known(a)); break;
            case 23: Check.same(run + "rues " + m, feet.rues(m), naive.rues(m)); break;
            case 24: a = below(20) == 0 ? -below(3) : random.nextInt() & 0x7fffffff; b = near(1, 99); int c = near(0, 8);
                Check.same(run + "chance " + a + " " + b + " " + c, feet.chance(a, b, c), naive.chance(a, b, c)); break;
            case 25: a = near(0, 5); b = near(0, 99); int i = a == 2 || below(9) == 0 ? m : 0;
                Check.same(run + "tried " + a + " " + i + " " + b, feet.tried(a, i, b), naive.tried(a, i, b)); break;
            case 26: Check.same(run + "undo", feet.undo(), naive.undo()); break;
            case 27: if (below(3) == 0) {
                Check.same(run + "keep", feet.keep(), naive.keep()); } break;
            case 28: Check.same(run + "back", feet.back(), naive.back()); break;
            case 29: a = below(2) == 0 ? Check.letters("" + (char) ('a' + below(26))) : random.nextInt(); b = near(0, 1);
                Check.same(run + "named " + b + " " + a, feet.named(b, a), naive.named(b, a)); break;
            case 30: a = near(0, 1); Check.same(run + "fault " + a, feet.fault(a), naive.fault(a)); break;
            case 31: a = near(-2, -1); Check.same(run + "text " + a, feet.text(a), naive.text(a)); break;
            default: a = near(0, 14); Check.same(run + "count " + a, feet.count(a), naive.count(a));
        }
    }

    /** What is so, so that some RUES are left. */
    private boolean isSaved(int thing, int steps) {
        int out = naive.count(3) == 0 ? naive.out(thing) : -2;
        return out >= 0 && out <= steps;
    }
}
