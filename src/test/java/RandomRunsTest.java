import java.util.NoSuchElementException;
import java.util.Random;

/** Holds PartsFerry against PlainFerry in runs of calls that are drawn, always the same ones. */
final class RandomRunsTest {
    private static final String[] WORDS = {"man", "sort", "deed", "send", "want", "room", "storm", "seed", "law", "fare",
        "gain", "mix", "or", "and", "not", "size", "rate", "pence", "aboard", "away", "worth", "day", "a", "b", "c", "d",
        "e", "abcdef", "abcdefg", "0", "1", "2", "31", "32", "99", "100", "9999", "10000", "99999999999999", "(", ")",
        "+", "-", "*", "/", "<", "<=", "=", "<>", ">=", ">", ";", "?", "A"};
    private static final String[] NAMES = {"size", "rate", "pence", "aboard", "away", "worth", "day"};
    private static final String[] SIGNS = {"+", "-", "*", "/", "<", "<=", "=", "<>", ">=", ">", " and ", " or "};

    private final Due due = new Due("RandomRunsTest");
    private final Random random;
    private final PartsFerry ferry = new PartsFerry();
    private final PlainFerry plain = new PlainFerry();
    private String run = "";

    private RandomRunsTest(long seed) {
        random = new Random(seed);
    }

    public static void main(String[] args) {
        int runs = args.length > 0 ? Integer.parseInt(args[0]) : 600;
        Due all = new Due("RandomRunsTest");
        for (int seed = 0; seed < runs; seed++) {
            RandomRunsTest test = new RandomRunsTest(seed);
            test.run = "run " + seed;
            test.play(seed % 3 == 0);
        }
        all.end();
    }

    private int below(int n) {
        return random.nextInt(n);
    }

    private void is(String call, long got, long want) {
        if (got != want) {
            due.is(run + ": " + call, got, want);
            due.end();
        }
    }

    private void play(boolean isOfTexts) {
        for (int calls = 0; calls < 300;) {
            if (isOfTexts || calls == 0 || below(150) == 0) {
                calls += tell(isOfTexts && below(2) == 0 ? soup() : text(isOfTexts));
            }
            if (!isOfTexts || below(4) == 0) {
                calls++;
                call();
            }
        }
    }

    private int tell(String text) {
        int n = text.length();
        int calls = 3;
        for (int i = 0; i < n; i += 20) {
            int[] four = new int[5];
            for (int j = 0; j < 20; j++) {
                four[j / 4] = four[j / 4] << 8 | (i + j < n ? text.charAt(i + j) & 255 : below(256));
            }
            is("feed", ferry.feed(four[0], four[1], four[2], four[3], four[4]), plain.feed(four));
            calls++;
        }
        is("text of " + text, ferry.text(n), plain.text(n));
        is("fault(0) of " + text, ferry.fault(0), plain.fault(0));
        is("fault(1) of " + text, ferry.fault(1), plain.fault(1));
        is("knots of " + text, ferry.count(5), plain.count(5));
        return calls;
    }

    /** Tokens without much sense, behind a beginning that has some. */
    private String soup() {
        StringBuilder text = new StringBuilder(below(2) == 0 ? "man a 5;sort b 2 3;deed c 1;" : "");
        if (below(2) == 0) {
            text.append("law ").append(new String[] {"fare ", "gain ", "mix "}[below(3)]);
            text.append(formula(below(6)));
        }
        int n = below(12);
        for (int i = 0; i < n; i++) {
            text.append(WORDS[below(WORDS.length)]).append(below(4) > 0 ? " " : below(8) == 0 ? "\n" : "");
        }
        return text.length() > 700 ? text.substring(0, 700) : text.toString();
    }

    private String formula(int depth) {
        if (depth == 0 || below(5) == 0) {
            int kind = below(8);
            String big = "" + below(20) + (below(4) == 0 ? below(10000 - 2) : "");
            return kind < 3 ? "" + below(12) : kind == 3 ? big : NAMES[below(NAMES.length)];
        }
        switch (below(6)) {
            case 0:
                return "not " + formula(depth - 1);
            case 1:
            case 2:
                return "(" + formula(depth - 1) + ")";
            default:
                return formula(depth - 1) + SIGNS[below(SIGNS.length)] + formula(depth - 1);
        }
    }

    private String text(boolean isFaulty) {
        StringBuilder text = new StringBuilder();
        int men = 1 + below(5);
        int sorts = 1 + below(5);
        int deeds = 1 + below(4);
        for (int i = 0; i < men; i++) {
            text.append("man ").append((char) ('a' + i)).append(' ').append(below(below(2) == 0 ? 30 : 400)).append(';');
        }
        for (int i = 0; i < sorts; i++) {
            text.append("sort ").append((char) ('a' + i)).append(' ').append(1 + below(6)).append(' ');
            text.append(below(12)).append(';');
        }
        for (int i = 0; i < deeds; i++) {
            text.append("deed ").append((char) ('a' + i)).append(' ').append(below(32)).append(';');
        }
        for (int n = below(10); n > 0; n--) {
            text.append("send ").append((char) ('a' + below(men))).append(' ').append((char) ('a' + below(sorts)));
            text.append(' ').append(below(8)).append(';');
        }
        for (int n = below(9); n > 0; n--) {
            text.append("want ").append((char) ('a' + below(men))).append(' ').append((char) ('a' + below(deeds)));
            text.append(' ').append(below(2)).append(' ').append(below(10)).append(' ').append(below(100)).append(';');
        }
        if (below(3) > 0) {
            text.append("room ").append(1 + below(15)).append(';');
        }
        if (below(4) > 0) {
            text.append("storm ").append(below(3) == 0 ? below(2) * 100 : below(101)).append(';');
        }
        if (below(2) == 0) {
            text.append("seed ").append(below(100000)).append(';');
        }
        for (String rule : new String[] {"fare", "gain", "mix"}) {
            if (below(2) == 0) {
                text.append("law ").append(rule).append(' ').append(formula(below(5))).append(';');
            }
        }
        if (isFaulty && text.length() > 0) {
            int at = below(text.length());
            text.replace(at, at + below(3), WORDS[below(WORDS.length)]);
        }
        if (text.length() > 700) {
            text.setLength(text.lastIndexOf(";", 699) + 1);
        }
        return text.toString();
    }

    private int person() {
        return below(20) == 0 ? below(9) - 2 : below(Math.max(1, ferry.count(0)));
    }

    private int kind() {
        return below(20) == 0 ? below(9) - 2 : below(Math.max(1, ferry.count(1)));
    }

    private int task() {
        return below(20) == 0 ? below(9) - 2 : below(Math.max(1, ferry.count(2)));
    }

    private int side() {
        return below(20) == 0 ? below(5) - 2 : below(2);
    }

    private int what(int most) {
        return below(most + 3) - 1;
    }

    private void call() {
        int m = person();
        int o = person();
        int s = kind();
        int d = task();
        int p = side();
        switch (below(40)) {
            case 0: manIs(m, what(4)); break;
            case 1: { int w = what(1); is("sort(" + s + ", " + w + ")", ferry.sort(s, w), plain.sort(s, w)); break; }
            case 2: is("deed(" + d + ")", ferry.deed(d), plain.deed(d)); break;
            case 3: { int i = below(14) - 1; int w = what(3); is("sending", ferry.sending(i, w), plain.sending(i, w)); break; }
            case 4: { int i = below(10) - 1; int w = what(5); is("want", ferry.want(i, w), plain.want(i, w)); break; }
            case 5: is("holds", ferry.holds(m, s), plain.holds(m, s)); break;
            case 6: is("port", ferry.port(m, s), plain.port(m, s)); break;
            case 7: is("can", ferry.can(m, d, p), plain.can(m, d, p)); break;
            case 8:
            case 9: { int w = what(2); int i = below(6) - 1; is("law", ferry.law(w, m, i), plain.law(w, m, i)); break; }
            case 10:
            case 11: { int n = below(8) == 0 ? below(12000) - 10 : ferry.count(6) + below(4) - 1;
                is("send", ferry.send(m, s, n), plain.send(m, s, n)); break; }
            case 12: { int i = below(14) - 1; is("take", ferry.take(i) ? 1 : 0, plain.take(i)); break; }
            case 13:
            case 14: is("swap", ferry.swap(m, o, s) ? 1 : 0, plain.swap(m, o, s)); break;
            case 15: { int n = below(103) - 1; is("lend", ferry.lend(m, n), plain.lend(m, n)); break; }
            case 16:
            case 17: { int n = below(10) == 0 ? below(103) - 1 : below(3); is("go " + n, ferry.go(n), plain.go(n)); break; }
            case 18:
            case 19: { int n = below(10) == 0 ? below(103) - 1 : below(12); int w = what(4);
                is("ahead", ferry.ahead(n, w, m), plain.ahead(n, w, m)); break; }
            case 20: is("first", ferry.first(m, d, p), plain.first(m, d, p)); break;
            case 21: { int w = what(1); is("load", ferry.load(w), plain.load(w)); break; }
            case 22: { int w = what(4); is("order", ferry.order(w), plain.order(w)); break; }
            case 23: is("swaps", ferry.swaps(), plain.swaps()); break;
            case 24: is("together", ferry.together(m, o, p), plain.together(m, o, p)); break;
            case 25: is("needs", ferry.needs(m, d, p), plain.needs(m, d, p, false)); break;
            case 26: is("cheap", ferry.cheap(m, d, p), plain.needs(m, d, p, true)); break;
            case 27: is("rests", ferry.rests(m, o, s), plain.rests(m, o, s)); break;
            case 28: { int k = below(6) - 1; is("rest", ferry.rest(m, o, s, k), plain.rest(m, o, s, k)); break; }
            case 29: { int n = below(9) - 1; int w = what(1); is("calm", ferry.calm(n, w), plain.calm(n, w)); break; }
            case 30: is("whose", ferry.whose(m, s), plain.whose(m, s)); break;
            case 31: { int w = what(2); is("those", ferry.those(w), plain.those(w)); break; }
            case 32: { int n = below(43) - 1; boolean is = below(2) == 0;
                is("see", ferry.see(n, m, s, is), plain.see(n, m, s, is)); break; }
            case 33: { int i = below(Math.max(1, ferry.count(13)) + 1); is("out", ferry.out(i), plain.out(i)); break; }
            case 34: { int n = below(2) == 0 ? -1 : below(ferry.count(13) + 3) - 2; is("known", ferry.known(n) ? 1 : 0, plain.known(n)); break; }
            case 35: is("rooms", ferry.rooms(), plain.rooms()); break;
            case 36: { int seed = random.nextInt(); int n = 1 + below(8); int mixed = below(8);
                is("chance", ferry.chance(seed, n, mixed), plain.chance(seed, n, mixed)); break; }
            case 37: { int w = what(5); int i = w == 2 || below(9) == 0 ? m : 0; int n = below(10) == 0 ? below(103) - 1 : below(12);
                is("tried", ferry.tried(w, i, n), plain.tried(w, i, n)); break; }
            case 38: is("undo", ferry.undo(), plain.undo()); break;
            default:
                if (below(2) == 0) {
                    is("keep", ferry.keep(), plain.keep());
                } else {
                    is("back", ferry.back(), plain.back());
                }
                break;
        }
        int w = what(15);
        is("count(" + w + ")", ferry.count(w), plain.count(w));
        String name = "" + (char) ('a' + below(7));
        int k = what(2);
        is("named", ferry.named(k, Due.letters(name)), plain.named(k, Due.letters(name)));
    }

    private void manIs(int man, int what) {
        long got;
        try {
            got = ferry.man(man, what);
        } catch (IndexOutOfBoundsException e) {
            got = -100;
        } catch (NoSuchElementException e) {
            got = -200;
        }
        is("man(" + man + ", " + what + ")", got, plain.man(man, what));
    }
}
