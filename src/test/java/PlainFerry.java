import java.math.BigInteger;
import java.util.ArrayList;
import java.util.Arrays;
import java.util.HashSet;
import java.util.List;
import java.util.Set;

/**
 * The document once more, written as plainly as can be and in another way (parts are objects, E is
 * read by its grammar, loads, rows and swaps are found by trying all): RandomRunsTest holds
 * PartsFerry against it.
 */
final class PlainFerry {
    static final class Fault extends RuntimeException {
        private static final long serialVersionUID = 1L;
        final int number;
        final int place;

        Fault(int number, int place) {
            this.number = number;
            this.place = place;
        }
    }

    static final class Failure extends RuntimeException {
        private static final long serialVersionUID = 1L;
    }

    record Token(String text, int place) {
    }

    record Names(long size, long rate, long pence, long aboard, long away, long worth, long day) {
    }

    interface Formula {
        BigInteger value(Names names);
    }

    record Sort(String name, int size, int rate) {
    }

    record Deed(String name, int sorts) {
    }

    record Want(int man, int deed, int port, int day, int worth) {
    }

    static final class Part {
        int owner;
        int holder;
        int sort;
        int port;
        boolean aboard;
    }

    static final class Sending {
        int man;
        int sort;
        int day;
        int state;
    }

    static final class World {
        int day;
        long last;
        int storms;
        int[] pence = new int[5];
        int[] met = new int[8];
        List<Part> parts = new ArrayList<>();
        List<Sending> sendings = new ArrayList<>();

        World twin() {
            World twin = new World();
            twin.day = day;
            twin.last = last;
            twin.storms = storms;
            twin.pence = pence.clone();
            twin.met = met.clone();
            for (Part p : parts) {
                Part q = new Part();
                q.owner = p.owner;
                q.holder = p.holder;
                q.sort = p.sort;
                q.port = p.port;
                q.aboard = p.aboard;
                twin.parts.add(q);
            }
            for (Sending s : sendings) {
                Sending t = new Sending();
                t.man = s.man;
                t.sort = s.sort;
                t.day = s.day;
                t.state = s.state;
                twin.sendings.add(t);
            }
            return twin;
        }

        Part heldBy(int man, int sort) {
            for (Part p : parts) {
                if (p.holder == man && p.sort == sort) {
                    return p;
                }
            }
            return null;
        }
    }

    static final class Text {
        List<String> men = new ArrayList<>();
        List<Integer> pence = new ArrayList<>();
        List<Sort> sorts = new ArrayList<>();
        List<Deed> deeds = new ArrayList<>();
        List<int[]> sends = new ArrayList<>();
        List<Want> wants = new ArrayList<>();
        int room = 9;
        int storm = 0;
        int seed = 0;
        Formula[] laws = new Formula[3];
        int knots = 0;
        int lines = 0;
    }

    private static final List<String> LANGUAGE = List.of("man", "sort", "deed", "send", "want", "room", "storm", "seed",
            "law", "fare", "gain", "mix", "or", "and", "not", "size", "rate", "pence", "aboard", "away", "worth", "day");
    private static final List<String> NAMES = LANGUAGE.subList(15, 22);

    String tape = "";
    Text text = new Text();
    World world = new World();
    World image = null;
    int fault = 0;
    int place = -1;
    final List<int[]> seen = new ArrayList<>();
    int by = -1;
    List<World> before = new ArrayList<>();

    // ---- the text

    private List<Token> tokens;
    private int at;
    private Text reading;
    private int open;

    int text(int n) {
        if (n < 0 || n > tape.length()) {
            return -2;
        }
        String told = tape.substring(0, n);
        tape = "";
        fault = 0;
        place = -1;
        try {
            text = read(told);
        } catch (Fault f) {
            fault = f.number;
            place = f.place;
            return -1;
        }
        world = beginning();
        image = null;
        seen.clear();
        by = -1;
        before.clear();
        return text.lines;
    }

    private World beginning() {
        World w = new World();
        w.last = text.seed;
        for (int m = 0; m < text.men.size(); m++) {
            w.pence[m] = text.pence.get(m);
            for (int s = 0; s < text.sorts.size(); s++) {
                Part p = new Part();
                p.owner = m;
                p.holder = m;
                p.sort = s;
                w.parts.add(p);
            }
        }
        for (int[] s : text.sends) {
            Sending sending = new Sending();
            sending.man = s[0];
            sending.sort = s[1];
            sending.day = s[2];
            w.sendings.add(sending);
        }
        return w;
    }

    private static List<Token> cut(String told) {
        List<Token> tokens = new ArrayList<>();
        int i = 0;
        while (i < told.length()) {
            char c = told.charAt(i);
            int j = i + 1;
            if (c == ' ' || c == '\n') {
                i = j;
                continue;
            }
            if (Character.toString(c).matches("[a-z]")) {
                while (j < told.length() && Character.toString(told.charAt(j)).matches("[a-z]")) {
                    j++;
                }
            } else if (Character.toString(c).matches("[0-9]")) {
                while (j < told.length() && Character.toString(told.charAt(j)).matches("[0-9]")) {
                    j++;
                }
            } else if (j < told.length() && Set.of("<=", ">=", "<>").contains(told.substring(i, j + 1))) {
                j++;
            }
            tokens.add(new Token(told.substring(i, j), i));
            i = j;
        }
        tokens.add(new Token("", told.length()));
        return tokens;
    }

    private Token here() {
        return tokens.get(at);
    }

    private Fault wrong(int number) {
        return new Fault(number, here().place());
    }

    private boolean comes(String... texts) {
        if (!Arrays.asList(texts).contains(here().text())) {
            return false;
        }
        at++;
        return true;
    }

    private Text read(String told) {
        tokens = cut(told);
        at = 0;
        reading = new Text();
        Set<String> once = new HashSet<>();
        while (!here().text().isEmpty()) {
            readLine(once);
            if (!comes(";")) {
                throw wrong(1);
            }
            reading.lines++;
        }
        return reading;
    }

    private void atMost(int count, int most) {
        if (count == most) {
            throw wrong(2);
        }
        at++;
    }

    private void readLine(Set<String> once) {
        String word = here().text();
        if (word.equals("man")) {
            atMost(reading.men.size(), 5);
            String name = newName(reading.men);
            int pence = number(0, 999);
            reading.men.add(name);
            reading.pence.add(pence);
        } else if (word.equals("sort")) {
            atMost(reading.sorts.size(), 5);
            String name = newName(reading.sorts.stream().map(Sort::name).toList());
            int size = number(1, 9);
            reading.sorts.add(new Sort(name, size, number(0, 99)));
        } else if (word.equals("deed")) {
            atMost(reading.deeds.size(), 5);
            String name = newName(reading.deeds.stream().map(Deed::name).toList());
            reading.deeds.add(new Deed(name, number(0, 31)));
        } else if (word.equals("send")) {
            atMost(reading.sends.size(), 12);
            int man = oldName(reading.men);
            int sort = oldName(reading.sorts.stream().map(Sort::name).toList());
            reading.sends.add(new int[] {man, sort, number(0, 99)});
        } else if (word.equals("want")) {
            atMost(reading.wants.size(), 8);
            int man = oldName(reading.men);
            int deed = oldName(reading.deeds.stream().map(Deed::name).toList());
            int port = number(0, 1);
            int day = number(0, 99);
            reading.wants.add(new Want(man, deed, port, day, number(0, 99)));
        } else if (Set.of("room", "storm", "seed").contains(word)) {
            if (!once.add(word)) {
                throw wrong(3);
            }
            at++;
            if (word.equals("room")) {
                reading.room = number(1, 30);
            } else if (word.equals("storm")) {
                reading.storm = number(0, 100);
            } else {
                reading.seed = number(0, 99999);
            }
        } else if (word.equals("law")) {
            at++;
            int rule = List.of("fare", "gain", "mix").indexOf(here().text());
            if (rule < 0) {
                throw wrong(1);
            }
            if (reading.laws[rule] != null) {
                throw wrong(3);
            }
            at++;
            open = 0;
            reading.laws[rule] = readE();
        } else {
            throw wrong(1);
        }
    }

    private String name() {
        String name = here().text();
        if (!name.matches("[a-z]{1,6}") || LANGUAGE.contains(name)) {
            throw wrong(1);
        }
        return name;
    }

    private String newName(List<String> names) {
        String name = name();
        if (names.contains(name)) {
            throw wrong(3);
        }
        at++;
        return name;
    }

    private int oldName(List<String> names) {
        int i = names.indexOf(name());
        if (i < 0) {
            throw wrong(4);
        }
        at++;
        return i;
    }

    private int number(int least, int most) {
        if (!here().text().matches("[0-9]+")) {
            throw wrong(1);
        }
        BigInteger number = new BigInteger(here().text());
        if (number.compareTo(BigInteger.valueOf(least)) < 0 || number.compareTo(BigInteger.valueOf(most)) > 0) {
            throw wrong(2);
        }
        at++;
        return number.intValue();
    }

    /** The token just read is a knot. */
    private void knot() {
        reading.knots++;
        if (reading.knots > 64) {
            throw new Fault(2, tokens.get(at - 1).place());
        }
    }

    private Formula readE() {
        Formula left = readA();
        while (comes("or")) {
            knot();
            left = joined("or", left, readA());
        }
        return left;
    }

    private Formula readA() {
        Formula left = readB();
        while (comes("and")) {
            knot();
            left = joined("and", left, readB());
        }
        return left;
    }

    private Formula readB() {
        if (comes("not")) {
            knot();
            Formula inner = readB();
            return names -> BigInteger.valueOf(inner.value(names).signum() == 0 ? 1 : 0);
        }
        return readC();
    }

    private Formula readC() {
        Formula left = readS();
        String sign = here().text();
        if (comes("<", "<=", "=", "<>", ">=", ">")) {
            knot();
            return joined(sign, left, readS());
        }
        return left;
    }

    private Formula readS() {
        Formula left = readT();
        String sign = here().text();
        while (comes("+", "-")) {
            knot();
            left = joined(sign, left, readT());
            sign = here().text();
        }
        return left;
    }

    private Formula readT() {
        Formula left = readP();
        String sign = here().text();
        while (comes("*", "/")) {
            knot();
            left = joined(sign, left, readP());
            sign = here().text();
        }
        return left;
    }

    private Formula readP() {
        String word = here().text();
        if (word.matches("[0-9]+")) {
            BigInteger n = BigInteger.valueOf(number(0, 9999));
            knot();
            return names -> n;
        }
        if (NAMES.contains(word)) {
            at++;
            knot();
            int which = NAMES.indexOf(word);
            return names -> BigInteger.valueOf(new long[] {names.size, names.rate, names.pence, names.aboard,
                names.away, names.worth, names.day}[which]);
        }
        if (word.equals("(")) {
            if (open == 8) {
                throw wrong(2);
            }
            at++;
            open++;
            Formula inner = readE();
            if (!comes(")")) {
                throw wrong(1);
            }
            open--;
            return inner;
        }
        throw wrong(1);
    }

    private static Formula joined(String sign, Formula left, Formula right) {
        return names -> {
            BigInteger one = left.value(names);
            BigInteger other = right.value(names);
            BigInteger value = worked(sign, one, other);
            if (value.abs().compareTo(BigInteger.TEN.pow(12)) > 0) {
                throw new Failure();
            }
            return value;
        };
    }

    private static BigInteger worked(String sign, BigInteger one, BigInteger other) {
        int compared = one.compareTo(other);
        switch (sign) {
            case "+": return one.add(other);
            case "-": return one.subtract(other);
            case "*": return one.multiply(other);
            case "/":
                if (other.signum() == 0) {
                    throw new Failure();
                }
                return one.divide(other);
            case "and": return truth(one.signum() != 0 && other.signum() != 0);
            case "or": return truth(one.signum() != 0 || other.signum() != 0);
            case "<": return truth(compared < 0);
            case "<=": return truth(compared <= 0);
            case "=": return truth(compared == 0);
            case "<>": return truth(compared != 0);
            case ">=": return truth(compared >= 0);
            default: return truth(compared > 0);
        }
    }

    private static BigInteger truth(boolean is) {
        return is ? BigInteger.ONE : BigInteger.ZERO;
    }

    // ---- days

    /** Null: no such law, or an error. */
    private Long valued(int rule, Names names) {
        if (text.laws[rule] == null) {
            return null;
        }
        try {
            return text.laws[rule].value(names).longValueExact();
        } catch (Failure f) {
            return null;
        }
    }

    private long aboard(World w) {
        return w.parts.stream().filter(p -> p.aboard).count();
    }

    private long away(World w, int man) {
        return w.parts.stream().filter(p -> p.holder == man && p.port == 1).count();
    }

    private Long fare(World w, int man, int sort) {
        Sort s = text.sorts.get(sort);
        return valued(0, new Names(s.size, s.rate, w.pence[man], aboard(w), away(w, man), 0, w.day));
    }

    private Long gain(World w, int man, int want) {
        return valued(1, new Names(0, 0, w.pence[man], aboard(w), away(w, man), text.wants.get(want).worth, w.day));
    }

    private Long mix(World w, int sort) {
        Sort s = text.sorts.get(sort);
        long ofSort = w.parts.stream().filter(p -> p.aboard && p.sort == sort).count();
        return valued(2, new Names(s.size, s.rate, 0, aboard(w), ofSort, 0, w.day));
    }

    private static int bounded(Long value, int otherwise) {
        if (value == null) {
            return otherwise;
        }
        return value < 0 ? 0 : value > 999 ? 999 : value.intValue();
    }

    private boolean can(World w, int man, int deed, int port) {
        for (Part p : w.parts) {
            boolean isNeeded = (text.deeds.get(deed).sorts >> p.sort & 1) == 1;
            if (p.holder == man && isNeeded && p.port != port) {
                return false;
            }
        }
        return true;
    }

    /** How storms come: "numbers", "as it goes", "never". */
    private void day(World w, String storms, int room, int silent, boolean free) {
        for (int i = 0; i < text.wants.size(); i++) {
            Want want = text.wants.get(i);
            if (want.day == w.day) {
                if (can(w, want.man, want.deed, want.port)) {
                    w.met[i] = 1;
                    w.pence[want.man] = Math.min(99999, w.pence[want.man] + bounded(gain(w, want.man, i), want.worth));
                } else {
                    w.met[i] = 2;
                }
            }
        }
        for (Sending s : w.sendings) {
            if (s.state != 0 || s.day > w.day || s.man == silent) {
                continue;
            }
            Part p = w.heldBy(s.man, s.sort);
            int laden = w.parts.stream().filter(q -> q.aboard).mapToInt(q -> text.sorts.get(q.sort).size).sum();
            int fare = free ? 0 : bounded(fare(w, s.man, s.sort), text.sorts.get(s.sort).rate);
            if (p.port == w.day % 2 && !p.aboard && text.sorts.get(s.sort).size + laden <= room
                    && w.pence[s.man] >= fare) {
                w.pence[s.man] -= fare;
                p.aboard = true;
                s.state = 1;
            }
        }
        if (storms(w, storms)) {
            w.storms++;
            for (int sort = 0; sort < text.sorts.size(); sort++) {
                Long mix = mix(w, sort);
                if (mix == null || mix != 0) {
                    mixTwo(w, sort);
                }
            }
        }
        for (Part p : w.parts) {
            if (p.aboard) {
                p.port = 1 - p.port;
                p.aboard = false;
            }
        }
        w.day++;
    }

    private boolean storms(World w, String how) {
        if (how.equals("never")) {
            return false;
        }
        if (how.equals("as it goes")) {
            return text.storm >= 50;
        }
        if (text.storm == 0 || text.storm == 100) {
            return text.storm == 100;
        }
        w.last = (w.last * 1103515245L + 12345L) % (1L << 31);
        return w.last / 65536 % 100 < text.storm;
    }

    private void mixTwo(World w, int sort) {
        List<Part> found = new ArrayList<>();
        for (int man = 0; man < text.men.size(); man++) {
            Part p = w.heldBy(man, sort);
            if (p.aboard && found.size() < 2) {
                found.add(p);
            }
        }
        if (found.size() == 2) {
            int holder = found.get(0).holder;
            found.get(0).holder = found.get(1).holder;
            found.get(1).holder = holder;
        }
    }

    private void days(World w, int n, String storms) {
        for (int i = 0; i < n; i++) {
            day(w, storms, text.room, -1, false);
        }
    }

    private World after(int n) {
        World w = world.twin();
        days(w, n, "as it goes");
        return w;
    }

    // ---- calls

    int feed(int... fours) {
        if (tape.length() + 20 > 700) {
            return -1;
        }
        StringBuilder more = new StringBuilder(tape);
        for (int four : fours) {
            for (int i = 3; i >= 0; i--) {
                more.append((char) (four >>> 8 * i & 255));
            }
        }
        tape = more.toString();
        return tape.length();
    }

    int fault(int what) {
        return what == 0 ? fault : what == 1 ? place : -1;
    }

    int named(int what, int letters) {
        List<String> names = what == 0 ? text.men : what == 1 ? text.sorts.stream().map(Sort::name).toList()
                : what == 2 ? text.deeds.stream().map(Deed::name).toList() : List.of();
        for (int i = 0; i < names.size(); i++) {
            if (Due.letters(names.get(i)) == letters) {
                return i;
            }
        }
        return -1;
    }

    private boolean isMan(int man) {
        return man >= 0 && man < text.men.size();
    }

    private boolean isSort(int sort) {
        return sort >= 0 && sort < text.sorts.size();
    }

    private boolean isDeed(int deed) {
        return deed >= 0 && deed < text.deeds.size();
    }

    private boolean isTask(int man, int deed, int port) {
        return isMan(man) && isDeed(deed) && port >= 0 && port <= 1;
    }

    /** -100: IndexOutOfBoundsException is due, -200: NoSuchElementException. */
    int man(int man, int what) {
        if (!isMan(man)) {
            return -100;
        }
        int bits = 0;
        int wants = 0;
        for (Part p : world.parts) {
            if (p.holder == man && (what == 1 && p.port == 1 || what == 2 && p.owner == man)) {
                bits |= 1 << p.sort;
            }
        }
        for (int i = 0; i < text.wants.size(); i++) {
            if (text.wants.get(i).man == man && world.met[i] == what - 2) {
                wants++;
            }
        }
        switch (what) {
            case 0: return world.pence[man];
            case 1:
            case 2: return bits;
            case 3:
            case 4: return wants;
            default: return -200;
        }
    }

    int sort(int sort, int what) {
        if (!isSort(sort) || what < 0 || what > 1) {
            return -1;
        }
        return what == 0 ? text.sorts.get(sort).size : text.sorts.get(sort).rate;
    }

    int deed(int deed) {
        return isDeed(deed) ? text.deeds.get(deed).sorts : -1;
    }

    int sending(int sending, int what) {
        if (sending < 0 || sending >= world.sendings.size() || what < 0 || what > 3) {
            return -1;
        }
        Sending s = world.sendings.get(sending);
        return new int[] {s.man, s.sort, s.day, s.state}[what];
    }

    int want(int want, int what) {
        if (want < 0 || want >= text.wants.size() || what < 0 || what > 5) {
            return -1;
        }
        Want w = text.wants.get(want);
        return new int[] {w.man, w.deed, w.port, w.day, w.worth, world.met[want]}[what];
    }

    int holds(int man, int sort) {
        return isMan(man) && isSort(sort) ? world.heldBy(man, sort).owner : -1;
    }

    int port(int man, int sort) {
        return isMan(man) && isSort(sort) ? world.heldBy(man, sort).port : -1;
    }

    int can(int man, int deed, int port) {
        return !isTask(man, deed, port) ? -1 : can(world, man, deed, port) ? 1 : 0;
    }

    long law(int what, int man, int which) {
        Long value = null;
        if (what == 0 && isMan(man) && isSort(which)) {
            value = fare(world, man, which);
        } else if (what == 1 && isMan(man) && which >= 0 && which < text.wants.size()) {
            value = gain(world, man, which);
        } else if (what == 2 && isSort(which)) {
            value = mix(world, which);
        }
        return value == null ? Long.MIN_VALUE : value;
    }

    private void done() {
        before.add(world.twin());
        if (before.size() > 20) {
            before.remove(0);
        }
    }

    int send(int man, int sort, int day) {
        if (!isMan(man) || !isSort(sort) || day < world.day || day > 9999 || world.sendings.size() == 12) {
            return -1;
        }
        done();
        Sending s = new Sending();
        s.man = man;
        s.sort = sort;
        s.day = day;
        world.sendings.add(s);
        return world.sendings.size() - 1;
    }

    int take(int sending) {
        if (sending(sending, 3) != 0) {
            return 0;
        }
        done();
        world.sendings.get(sending).state = 2;
        return 1;
    }

    int swap(int one, int other, int sort) {
        if (!isMan(one) || !isMan(other) || one == other || !isSort(sort)) {
            return 0;
        }
        if (world.heldBy(one, sort).port != world.heldBy(other, sort).port) {
            return 0;
        }
        done();
        Part p = world.heldBy(one, sort);
        Part q = world.heldBy(other, sort);
        p.holder = other;
        q.holder = one;
        return 1;
    }

    int lend(int man, int pence) {
        if (!isMan(man) || pence < 1 || pence > 99 || world.pence[man] + pence > 99999) {
            return -1;
        }
        done();
        world.pence[man] += pence;
        return world.pence[man];
    }

    int go(int n) {
        if (n < 0 || n > 99 || world.day + n > 9900) {
            return -1;
        }
        days(world, n, "numbers");
        if (n > 0) {
            before.clear();
        }
        return world.day;
    }

    private int met(World w, int state) {
        int met = 0;
        for (int i = 0; i < text.wants.size(); i++) {
            met += w.met[i] == state ? 1 : 0;
        }
        return met;
    }

    private static int gone(World w) {
        return (int) w.sendings.stream().filter(s -> s.state == 1).count();
    }

    private static int mixed(World w) {
        return (int) w.parts.stream().filter(p -> p.owner != p.holder).count();
    }

    private static int allPence(World w) {
        return Arrays.stream(w.pence).sum();
    }

    int ahead(int n, int what, int man) {
        if (n < 0 || n > 99 || what < 0 || what > 4 || what == 3 && !isMan(man)) {
            return -1;
        }
        World w = after(n);
        switch (what) {
            case 0: return met(w, 1) - met(world, 1);
            case 1: return met(w, 2) - met(world, 2);
            case 2: return gone(w) - gone(world);
            case 3: return w.pence[man];
            default: return mixed(w);
        }
    }

    int first(int man, int deed, int port) {
        if (!isTask(man, deed, port)) {
            return -1;
        }
        World w = world.twin();
        for (int n = 0; n <= 99; n++) {
            if (can(w, man, deed, port)) {
                return n;
            }
            days(w, 1, "as it goes");
        }
        return -2;
    }

    private boolean isDue(int sending) {
        Sending s = world.sendings.get(sending);
        return s.state == 0 && s.day <= world.day;
    }

    int load(int what) {
        if (what < 0 || what > 1) {
            return -1;
        }
        int best = 0;
        int most = 0;
        for (int bits = 1; bits < 1 << world.sendings.size(); bits++) {
            Set<Part> parts = new HashSet<>();
            boolean fits = true;
            int sizes = 0;
            int rates = 0;
            for (int i = 0; i < world.sendings.size() && fits; i++) {
                if ((bits >> i & 1) == 1) {
                    Sending s = world.sendings.get(i);
                    Part p = world.heldBy(s.man, s.sort);
                    fits = isDue(i) && p.port == world.day % 2 && parts.add(p);
                    sizes += text.sorts.get(s.sort).size;
                    rates += text.sorts.get(s.sort).rate;
                }
            }
            if (fits && sizes <= text.room && rates > most) {
                best = bits;
                most = rates;
            }
        }
        return what == 0 ? best : most;
    }

    private List<Integer> bestRow;
    private int bestPence;

    int order(int what) {
        if (what < 0 || what > 4) {
            return Integer.MIN_VALUE;
        }
        List<Integer> left = new ArrayList<>();
        for (int i = 0; i < world.sendings.size() && left.size() < 4; i++) {
            if (world.sendings.get(i).state == 0) {
                left.add(i);
            }
        }
        bestRow = null;
        tryRows(new ArrayList<>(), left);
        if (what == 4) {
            return bestPence - allPence(world);
        }
        return what < bestRow.size() ? bestRow.get(what) : -2;
    }

    private void tryRows(List<Integer> row, List<Integer> left) {
        for (Integer next : left) {
            List<Integer> longer = new ArrayList<>(row);
            longer.add(next);
            List<Integer> fewer = new ArrayList<>(left);
            fewer.remove(next);
            tryRows(longer, fewer);
        }
        if (left.isEmpty()) {
            World w = world.twin();
            for (int i = 0; i < row.size(); i++) {
                w.sendings.get(row.get(i)).day = world.day + 2 * i;
            }
            days(w, 20, "as it goes");
            if (bestRow == null || allPence(w) > bestPence) {
                bestRow = row;
                bestPence = allPence(w);
            }
        }
    }

    /** By trying all swaps, one more each time. */
    int swaps() {
        int sum = 0;
        for (int sort = 0; sort < text.sorts.size(); sort++) {
            List<Integer> owners = new ArrayList<>();
            for (int man = 0; man < text.men.size(); man++) {
                owners.add(world.heldBy(man, sort).owner);
            }
            List<Integer> right = new ArrayList<>(owners);
            right.sort(null);
            Set<List<Integer>> reached = new HashSet<>();
            reached.add(owners);
            while (!reached.contains(right)) {
                Set<List<Integer>> further = new HashSet<>();
                for (List<Integer> row : reached) {
                    for (int i = 0; i < row.size(); i++) {
                        for (int j = 0; j < i; j++) {
                            List<Integer> swapped = new ArrayList<>(row);
                            swapped.set(i, row.get(j));
                            swapped.set(j, row.get(i));
                            further.add(swapped);
                        }
                    }
                }
                reached = further;
                sum++;
            }
        }
        return sum;
    }

    int together(int one, int other, int port) {
        if (!isMan(one) || !isMan(other) || one == other || port < 0 || port > 1) {
            return -1;
        }
        int bits = 0;
        for (int d = 0; d < text.deeds.size(); d++) {
            boolean can = true;
            for (int s = 0; s < text.sorts.size(); s++) {
                if ((text.deeds.get(d).sorts >> s & 1) == 1) {
                    can &= world.heldBy(one, s).port == port || world.heldBy(other, s).port == port;
                }
            }
            bits |= can ? 1 << d : 0;
        }
        return bits;
    }

    int needs(int man, int deed, int port, boolean isCheap) {
        if (!isTask(man, deed, port)) {
            return -1;
        }
        int bits = 0;
        int rates = 0;
        for (int s = 0; s < text.sorts.size(); s++) {
            if ((text.deeds.get(deed).sorts >> s & 1) == 1 && world.heldBy(man, s).port != port) {
                bits |= 1 << s;
                rates += text.sorts.get(s).rate;
            }
        }
        return isCheap ? rates : bits;
    }

    private List<Integer> restsOf(int one, int other, int sort) {
        int rate = text.sorts.get(sort).rate;
        long[][] ones = new long[2][2];
        long[][] others = new long[2][2];
        for (int a = 0; a < 2; a++) {
            for (int b = 0; b < 2; b++) {
                ones[a][b] = (a == b ? rate / 3 : rate) + (a == 0 ? away(world, one) : 0);
                others[a][b] = (a == b ? rate / 3 : rate) + (b == 0 ? away(world, other) : 0);
            }
        }
        List<Integer> rests = new ArrayList<>();
        for (int a = 0; a < 2; a++) {
            for (int b = 0; b < 2; b++) {
                if (ones[a][b] >= ones[1 - a][b] && others[a][b] >= others[a][1 - b]) {
                    rests.add(10 * a + b);
                }
            }
        }
        return rests;
    }

    int rests(int one, int other, int sort) {
        return isMan(one) && isMan(other) && one != other && isSort(sort) ? restsOf(one, other, sort).size() : -1;
    }

    int rest(int one, int other, int sort, int k) {
        if (k < 0 || rests(one, other, sort) < 0) {
            return -1;
        }
        List<Integer> rests = restsOf(one, other, sort);
        return k < rests.size() ? rests.get(k) : -2;
    }

    long calm(int n, int what) {
        if (n < 0 || n > 6 || what < 0 || what > 1) {
            return -1;
        }
        BigInteger above = BigInteger.valueOf(100 - text.storm).pow(n);
        BigInteger below = BigInteger.valueOf(100).pow(n);
        return (what == 0 ? above : below).divide(above.gcd(below)).longValueExact();
    }

    int whose(int man, int sort) {
        for (Part p : world.parts) {
            if (p.owner == man && p.sort == sort) {
                return p.holder;
            }
        }
        return -1;
    }

    int those(int what) {
        int bits = 0;
        for (int man = 0; man < text.men.size(); man++) {
            int m = man;
            boolean isLost = !text.sorts.isEmpty() && world.parts.stream().allMatch(p -> p.owner != m || p.holder != m);
            boolean isHalf = world.parts.stream().anyMatch(p -> p.holder == m && p.port == 0)
                    && world.parts.stream().anyMatch(p -> p.holder == m && p.port == 1);
            bits |= what == 0 && isLost || what == 1 && isHalf ? 1 << man : 0;
        }
        for (int i = 0; i < world.sendings.size(); i++) {
            bits |= what == 2 && isDue(i) ? 1 << i : 0;
        }
        return what < 0 || what > 2 ? -1 : bits;
    }

    int see(int days, int man, int sort, boolean isThere) {
        if (days < 1 || days > 40 || !isMan(man) || !isSort(sort) || seen.size() == 24) {
            return -1;
        }
        seen.add(new int[] {days, man, sort, isThere ? 1 : 0});
        return seen.size() - 1;
    }

    int out(int which) {
        if (which < 0 || which >= seen.size() || seen.size() == 24) {
            return -1;
        }
        seen.add(new int[] {which});
        return seen.size() - 1;
    }

    int known(int n) {
        if (n < -1 || n > seen.size()) {
            return 0;
        }
        by = n;
        return 1;
    }

    /** Struck, if one behind it that isn't struck itself strikes it. */
    private boolean isStruck(int i, int limit) {
        for (int j = i + 1; j < limit; j++) {
            if (seen.get(j).length == 1 && seen.get(j)[0] == i && !isStruck(j, limit)) {
                return true;
            }
        }
        return false;
    }

    int rooms() {
        int limit = by < 0 ? seen.size() : by;
        int bits = 0;
        for (int room = 1; room <= 10; room++) {
            boolean isSo = true;
            for (int i = 0; i < limit; i++) {
                int[] one = seen.get(i);
                if (one.length == 4 && !isStruck(i, limit)) {
                    World w = beginning();
                    for (int d = 0; d < one[0]; d++) {
                        day(w, "as it goes", room, -1, false);
                    }
                    isSo &= w.heldBy(one[1], one[2]).port == one[3];
                }
            }
            bits |= isSo ? 1 << room - 1 : 0;
        }
        return bits;
    }

    int chance(int seed, int n, int mixed) {
        if (seed < 0 || n < 1 || n > 99 || mixed < 0 || mixed > 25) {
            return -1;
        }
        long last = seed;
        int times = 0;
        for (int i = 0; i < 10; i++) {
            World w = world.twin();
            w.last = last;
            days(w, n, "numbers");
            last = w.last;
            times += mixed(w) >= mixed ? 1 : 0;
        }
        return times;
    }

    int tried(int what, int i, int n) {
        if (what < 0 || what > 5 || n < 0 || n > 99 || (what == 2 ? !isMan(i) : i != 0)) {
            return -1;
        }
        World w = world.twin();
        if (what == 5) {
            int[] ports = new int[25];
            w.parts.forEach(p -> ports[p.holder * 5 + p.sort] = p.port);
            w.parts.forEach(p -> p.holder = p.owner);
            w.parts.forEach(p -> p.port = ports[p.holder * 5 + p.sort]);
        }
        for (int d = 0; d < n; d++) {
            day(w, what == 1 ? "never" : "as it goes", what == 3 ? 99 : text.room, what == 2 ? i : -1, what == 4);
        }
        return met(w, 1) - met(world, 1);
    }

    int undo() {
        if (before.isEmpty()) {
            return -1;
        }
        world = before.remove(before.size() - 1);
        return before.size();
    }

    int keep() {
        image = world.twin();
        return world.day;
    }

    int back() {
        if (image == null) {
            return -1;
        }
        world = image.twin();
        before.clear();
        return world.day;
    }

    int count(int what) {
        if (what < 0 || what > 15) {
            return -1;
        }
        return new int[] {text.men.size(), text.sorts.size(), text.deeds.size(), world.sendings.size(),
            text.wants.size(), text.knots, world.day, met(world, 1), met(world, 2), gone(world), allPence(world),
            mixed(world), world.storms, seen.size(), by < 0 ? seen.size() : by, before.size()}[what];
    }
}
