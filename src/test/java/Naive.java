import java.math.BigInteger;
import java.util.ArrayDeque;
import java.util.ArrayList;
import java.util.Arrays;
import java.util.Collections;
import java.util.Deque;
import java.util.HashMap;
import java.util.HashSet;
import java.util.List;
import java.util.Map;
import java.util.NoSuchElementException;
import java.util.Set;

/** The document once more, written as plainly as the Java library allows, to be compared with ColdFeet. */
final class Naive {
    /** A FAULT of a TEXT. */
    @SuppressWarnings("serial")
    static final class Fault extends RuntimeException {
        final int kind;
        final int place;

        Fault(int kind, int place) {
            this.kind = kind;
            this.place = place;
        }
    }

    /** E: what it is by the NAMES; ArithmeticException: an ERROR. */
    interface Formula {
        BigInteger of(Map<String, Integer> names);
    }

    static final BigInteger MOST = BigInteger.TEN.pow(12);
    static final Set<String> WORDS = new HashSet<>(Arrays.asList(("man thing look crowd heat gust risk seed law dare"
        + " after hurt or and not fear rue skill looks hot depth step").split(" ")));
    static final List<String> NAMES = Arrays.asList("fear", "rue", "skill", "looks", "hot", "depth", "step");

    /** A TEXT as told, read from left to right. */
    static final class Told {
        final String text;
        int at;
        String token = "";
        int place;
        int open;
        int knots;
        int lines;
        final List<String> manNames = new ArrayList<>();
        final List<String> thingNames = new ArrayList<>();
        final List<int[]> men = new ArrayList<>();
        final List<int[]> things = new ArrayList<>();
        final List<int[]> looks = new ArrayList<>();
        final Map<String, Integer> settings = new HashMap<>();
        final Map<String, Formula> laws = new HashMap<>();

        Told(String text) {
            this.text = text;
            move();
            while (!token.isEmpty()) {
                line();
                need(";");
                lines++;
            }
        }

        int setting(String name, int without) {
            return settings.getOrDefault(name, without);
        }

        private char at(int k) {
            return k < text.length() ? text.charAt(k) : 0;
        }

        private void move() {
            while (at < text.length() && (at(at) == ' ' || at(at) == '\n')) {
                at++;
            }
            place = at;
            int end = at;
            while (end < text.length() && at(end) >= 'a' && at(end) <= 'z') {
                end++;
            }
            if (end == at) {
                while (end < text.length() && at(end) >= '0' && at(end) <= '9') {
                    end++;
                }
            }
            if (end == at && at < text.length()) {
                end++;
                String two = text.substring(at, Math.min(at + 2, text.length()));
                if (two.equals("<=") || two.equals("<>") || two.equals(">=")) {
                    end++;
                }
            }
            token = text.substring(at, end);
            at = end;
        }

        private boolean is(String... some) {
            return Arrays.asList(some).contains(token);
        }

        private void need(String one) {
            if (!is(one)) {
                throw new Fault(1, place);
            }
            move();
        }

        private boolean isNumber() {
            return token.matches("[0-9]+");
        }

        private int number(int least, int most) {
            if (!isNumber()) {
                throw new Fault(1, place);
            }
            BigInteger value = new BigInteger(token);
            if (value.compareTo(BigInteger.valueOf(least)) < 0 || value.compareTo(BigInteger.valueOf(most)) > 0) {
                throw new Fault(2, place);
            }
            move();
            return value.intValue();
        }

        private String name() {
            if (!token.matches("[a-z]{1,6}") || WORDS.contains(token)) {
                throw new Fault(1, place);
            }
            return token;
        }

        private void line() {
            String word = token;
            if (is("man", "thing")) {
                boolean isMan = word.equals("man");
                List<String> names = isMan ? manNames : thingNames;
                if (names.size() == (isMan ? 6 : 8)) {
                    throw new Fault(2, place);
                }
                move();
                String name = name();
                if (names.contains(name)) {
                    throw new Fault(3, place);
                }
                names.add(name);
                move();
                if (isMan) {
                    men.add(new int[] {number(0, 99), number(0, 99), number(1, 9)});
                } else {
                    things.add(new int[] {number(1, 99), number(1, 6), number(0, 99)});
                }
            } else if (is("look")) {
                if (looks.size() == 10) {
                    throw new Fault(2, place);
                }
                move();
                int man = manNames.indexOf(name());
                if (man < 0) {
                    throw new Fault(4, place);
                }
                move();
                looks.add(new int[] {man, number(0, 99), number(1, 99)});
            } else if (is("crowd", "heat", "gust", "risk", "seed")) {
                if (settings.containsKey(word)) {
                    throw new Fault(3, place);
                }
                move();
                int most = word.equals("crowd") ? 999 : word.equals("heat") ? 9 : word.equals("seed") ? 99999 : 100;
                settings.put(word, number(0, most));
            } else if (is("law")) {
                move();
                String rule = token;
                if (!is("dare", "after", "hurt")) {
                    throw new Fault(1, place);
                }
                if (laws.containsKey(rule)) {
                    throw new Fault(3, place);
                }
                move();
                laws.put(rule, anyOf());
            } else {
                throw new Fault(1, place);
            }
        }

        private String knot() {
            if (knots == 64) {
                throw new Fault(2, place);
            }
            knots++;
            String knot = token;
            move();
            return knot;
        }

        private static BigInteger bit(boolean is) {
            return is ? BigInteger.ONE : BigInteger.ZERO;
        }

        private Formula anyOf() {
            Formula left = allOf();
            while (is("or")) {
                knot();
                Formula a = left;
                Formula b = allOf();
                left = names -> bit(a.of(names).signum() != 0 | b.of(names).signum() != 0);
            }
            return left;
        }

        private Formula allOf() {
            Formula left = denied();
            while (is("and")) {
                knot();
                Formula a = left;
                Formula b = denied();
                left = names -> bit(a.of(names).signum() != 0 & b.of(names).signum() != 0);
            }
            return left;
        }

        private Formula denied() {
            if (is("not")) {
                knot();
                Formula a = denied();
                return names -> bit(a.of(names).signum() == 0);
            }
            Formula a = sum();
            if (!is("<", "<=", "=", "<>", ">=", ">")) {
                return a;
            }
            String sign = knot();
            Formula b = sum();
            return names -> {
                int order = a.of(names).compareTo(b.of(names));
                switch (sign) {
                    case "<": return bit(order < 0);
                    case "<=": return bit(order <= 0);
                    case "=": return bit(order == 0);
                    case "<>": return bit(order != 0);
                    case ">=": return bit(order >= 0);
                    default: return bit(order > 0);
                }
            };
        }

        private static BigInteger bounded(BigInteger value) {
            if (value.abs().compareTo(MOST) > 0) {
                throw new ArithmeticException();
            }
            return value;
        }

        private Formula sum() {
            Formula left = product();
            while (is("+", "-")) {
                boolean isPlus = knot().equals("+");
                Formula a = left;
                Formula b = product();
                left = names -> bounded(isPlus ? a.of(names).add(b.of(names)) : a.of(names).subtract(b.of(names)));
            }
            return left;
        }

        private Formula product() {
            Formula left = part();
            while (is("*", "/")) {
                boolean isTimes = knot().equals("*");
                Formula a = left;
                Formula b = part();
                left = names -> bounded(isTimes ? a.of(names).multiply(b.of(names)) : a.of(names).divide(b.of(names)));
            }
            return left;
        }

        private Formula part() {
            if (is("(")) {
                if (open == 8) {
                    throw new Fault(2, place);
                }
                open++;
                move();
                Formula inner = anyOf();
                need(")");
                open--;
                return inner;
            }
            if (NAMES.contains(token)) {
                String name = knot();
                return names -> BigInteger.valueOf(names.get(name));
            }
            if (isNumber() && new BigInteger(token).compareTo(BigInteger.valueOf(9999)) <= 0) {
                BigInteger value = new BigInteger(knot());
                return names -> value;
            }
            throw new Fault(isNumber() ? 2 : 1, place);
        }
    }

    /** One MAN. */
    static final class Man implements Cloneable {
        int number;
        int fear;
        int rue;
        int skill;
        int looks;
        int is;
        int goal = -2;
        int inside;
        boolean held;

        Man copy() {
            try {
                return (Man) clone();
            } catch (CloneNotSupportedException e) {
                throw new IllegalStateException(e);
            }
        }
    }

    /** All that is so. */
    static final class State {
        Told told;
        List<Man> rank = new ArrayList<>();
        int[] is;
        int[] lasts;
        int heat;
        int crowd;
        int step;
        int refused;
        long number;
        boolean draws;
        boolean noGusts;
        boolean noHurts;
        boolean noBurning;
        boolean noLooks;
        Set<Integer> went = new HashSet<>();

        State(Told told) {
            this.told = told;
            for (int[] row : told.men) {
                Man man = new Man();
                man.number = rank.size();
                man.fear = row[0];
                man.rue = row[1];
                man.skill = row[2];
                rank.add(man);
            }
            is = new int[told.things.size()];
            lasts = told.things.stream().mapToInt(row -> row[2]).toArray();
            crowd = told.setting("crowd", 99);
            number = told.setting("seed", 0);
        }

        State copy() {
            State copy = new State(told);
            copy.rank.clear();
            for (Man man : rank) {
                copy.rank.add(man.copy());
            }
            copy.is = is.clone();
            copy.lasts = lasts.clone();
            copy.heat = heat;
            copy.crowd = crowd;
            copy.step = step;
            copy.refused = refused;
            copy.number = number;
            return copy;
        }

        Man man(int number) {
            return rank.stream().filter(man -> man.number == number).findFirst().orElseThrow();
        }

        int free() {
            for (int thing = 0; thing < is.length; thing++) {
                int wanted = thing;
                if (is[thing] == 0 && rank.stream().noneMatch(man -> man.is == 1 && man.goal == wanted)) {
                    return thing;
                }
            }
            return -2;
        }

        /** null: an ERROR, or no such law. */
        BigInteger law(String rule, Man man, int thing, int more) {
            Formula formula = told.laws.get(rule);
            if (formula == null) {
                return null;
            }
            Map<String, Integer> names = new HashMap<>();
            names.put("fear", man.fear);
            names.put("rue", man.rue);
            names.put("skill", man.skill);
            names.put("looks", man.looks + more);
            names.put("hot", heat);
            names.put("depth", thing < 0 ? 0 : told.things.get(thing)[1]);
            names.put("step", step);
            try {
                return formula.of(names);
            } catch (ArithmeticException e) {
                return null;
            }
        }

        boolean dares(Man man, int thing, int more) {
            BigInteger value = law("dare", man, thing, more);
            return value == null ? man.rue + man.looks + more >= man.fear + heat : value.signum() != 0;
        }

        boolean happens(int odds) {
            if (odds == 0 || odds == 100) {
                return odds == 100;
            }
            if (!draws) {
                return odds >= 50;
            }
            number = (number * 1103515245L + 12345L) % (1L << 31);
            return number / 65536 % 100 < odds;
        }

        static int within(BigInteger value, int least, int most) {
            return value.max(BigInteger.valueOf(least)).min(BigInteger.valueOf(most)).intValue();
        }

        State steps(int n) {
            for (int k = 0; k < n; k++) {
                oneStep();
            }
            return this;
        }

        void oneStep() {
            went.clear();
            for (int[] look : told.looks) {
                if (look[1] == step && !noLooks) {
                    if (crowd >= look[2]) {
                        crowd -= look[2];
                        man(look[0]).looks += look[2];
                    } else {
                        refused++;
                    }
                }
            }
            for (Man man : rank) {
                int thing = free();
                if (man.is == 0 && !man.held && thing >= 0 && dares(man, thing, 0)) {
                    man.is = 1;
                    man.goal = thing;
                    man.inside = 0;
                    went.add(man.number);
                }
            }
            for (Man man : rank) {
                if (man.is == 1) {
                    inside(man);
                }
            }
            for (int thing = 0; thing < is.length; thing++) {
                if (is[thing] == 0 && lasts[thing] == step && !noBurning) {
                    is[thing] = 3;
                }
            }
            heat += told.setting("heat", 1);
            if (!noGusts && happens(told.setting("gust", 0))) {
                heat += 5;
            }
            heat = Math.min(heat, 999);
            step++;
        }

        private void inside(Man man) {
            int thing = man.goal;
            int depth = told.things.get(thing)[1];
            man.inside++;
            BigInteger hurt = law("hurt", man, thing, 0);
            int odds = hurt == null ? told.setting("risk", 0) : within(hurt, 0, 100);
            if (!noHurts && happens(odds)) {
                man.is = 2;
                man.goal = -2;
                man.inside = 0;
                is[thing] = is[thing] == 1 ? 3 : is[thing];
                return;
            }
            if (man.inside == depth && is[thing] == 0) {
                is[thing] = 1;
            }
            if (man.inside == 2 * depth) {
                if (is[thing] == 1) {
                    is[thing] = 2;
                    crowd = Math.min(9999, crowd + told.things.get(thing)[0]);
                    BigInteger after = law("after", man, thing, 0);
                    int more = after == null ? 0 : within(after, -9, 9);
                    man.rue = Math.max(0, Math.min(99, man.rue + more));
                }
                man.is = 0;
                man.goal = -2;
                man.inside = 0;
            }
        }

        int things(int state) {
            return (int) Arrays.stream(is).filter(one -> one == state).count();
        }

        int men(int state) {
            return (int) rank.stream().filter(man -> man.is == state).count();
        }

        int worth() {
            int sum = 0;
            for (int thing = 0; thing < is.length; thing++) {
                sum += is[thing] == 2 ? told.things.get(thing)[0] : 0;
            }
            return sum;
        }
    }

    private String tape = "";
    private Told told = new Told("");
    private State now = new State(told);
    private State image;
    private int faultKind;
    private int faultPlace = -1;
    private final Deque<Runnable> undos = new ArrayDeque<>();
    private final List<int[]> seen = new ArrayList<>();
    private int knownBy = -1;

    private boolean isMan(int man) {
        return man >= 0 && man < told.men.size();
    }

    private boolean isThing(int thing) {
        return thing >= 0 && thing < told.things.size();
    }

    private static boolean within(int value, int least, int most) {
        return value >= least && value <= most;
    }

    int feed(int a, int b, int c, int d, int e) {
        if (tape.length() + 20 > 700) {
            return -1;
        }
        for (int four : new int[] {a, b, c, d, e}) {
            for (int shift = 24; shift >= 0; shift -= 8) {
                tape += (char) (four >> shift & 255);
            }
        }
        return tape.length();
    }

    int text(int n) {
        if (n < 0 || n > tape.length()) {
            return -2;
        }
        String text = tape.substring(0, n);
        tape = "";
        try {
            told = new Told(text);
        } catch (Fault fault) {
            faultKind = fault.kind;
            faultPlace = fault.place;
            return -1;
        }
        faultKind = 0;
        faultPlace = -1;
        now = new State(told);
        image = null;
        undos.clear();
        seen.clear();
        knownBy = -1;
        return told.lines;
    }

    int fault(int what) {
        return what == 0 ? faultKind : what == 1 ? faultPlace : -1;
    }

    int named(int what, int letters) {
        List<String> names = what == 0 ? told.manNames : what == 1 ? told.thingNames : Collections.emptyList();
        for (int k = 0; k < names.size(); k++) {
            if (Check.letters(names.get(k)) == letters) {
                return k;
            }
        }
        return -1;
    }

    int man(int number, int what) {
        if (!isMan(number)) {
            throw new IndexOutOfBoundsException();
        }
        if (!within(what, 0, 8)) {
            throw new NoSuchElementException();
        }
        Man man = now.man(number);
        return new int[] {man.fear, man.rue, man.skill, man.looks, man.is, man.goal, man.inside,
            now.rank.indexOf(man), man.held ? 1 : 0}[what];
    }

    int thing(int thing, int what) {
        if (!isThing(thing) || !within(what, 0, 4)) {
            return -1;
        }
        int goer = now.rank.stream().filter(man -> man.goal == thing).mapToInt(man -> man.number).findFirst().orElse(-2);
        return new int[] {told.things.get(thing)[0], told.things.get(thing)[1], now.lasts[thing], now.is[thing],
            goer}[what];
    }

    long law(int what, int number) {
        if (!isMan(number) || !within(what, 0, 2)) {
            return Long.MIN_VALUE;
        }
        Man man = now.man(number);
        BigInteger value = now.law(new String[] {"dare", "after", "hurt"}[what], man,
            what == 0 ? now.free() : man.goal, 0);
        return value == null ? Long.MIN_VALUE : value.longValueExact();
    }

    private void done(Runnable undo) {
        undos.addLast(undo);
        if (undos.size() > 20) {
            undos.removeFirst();
        }
    }

    int pay(int number, int looks) {
        if (!isMan(number) || !within(looks, 1, 99)) {
            return -1;
        }
        if (now.crowd < looks) {
            return -2;
        }
        Man man = now.man(number);
        now.crowd -= looks;
        man.looks += looks;
        done(() -> {
            now.crowd += looks;
            man.looks -= looks;
        });
        return now.crowd;
    }

    boolean swap(int one, int other) {
        if (!isMan(one) || !isMan(other) || one == other) {
            return false;
        }
        Runnable swap = () ->
            Collections.swap(now.rank, now.rank.indexOf(now.man(one)), now.rank.indexOf(now.man(other)));
        swap.run();
        done(swap);
        return true;
    }

    boolean hold(int number, boolean is) {
        if (!isMan(number) || now.man(number).held == is) {
            return false;
        }
        Man man = now.man(number);
        man.held = is;
        done(() -> man.held = !is);
        return true;
    }

    int wet(int thing, int more) {
        if (!isThing(thing) || !within(more, 1, 20) || now.is[thing] != 0) {
            return -1;
        }
        int was = now.lasts[thing];
        now.lasts[thing] = Math.min(999, was + more);
        done(() -> now.lasts[thing] = was);
        return now.lasts[thing];
    }

    int go(int n) {
        if (!within(n, 0, 99) || now.step + n > 9900) {
            return -1;
        }
        now.draws = true;
        now.steps(n);
        if (n > 0) {
            undos.clear();
        }
        return now.step;
    }

    int ahead(int n, int what) {
        if (!within(n, 0, 99) || !within(what, 0, 4)) {
            return -1;
        }
        State then = now.copy().steps(n);
        return new int[] {then.things(2) - now.things(2), then.things(3) - now.things(3), then.men(2) - now.men(2),
            then.heat, then.crowd}[what];
    }

    int goes(int man) {
        if (!isMan(man)) {
            return -1;
        }
        State then = now.copy();
        for (int k = 1; k <= 99; k++) {
            if (then.steps(1).went.contains(man)) {
                return k;
            }
        }
        return -2;
    }

    int out(int thing) {
        if (!isThing(thing)) {
            return -1;
        }
        State then = now.copy();
        for (int k = 0; k <= 99; k++) {
            if (then.is[thing] == 2) {
                return k;
            }
            then.steps(1);
        }
        return -2;
    }

    int premium(int number) {
        if (!isMan(number)) {
            return -1;
        }
        Man man = now.man(number);
        int thing = now.free();
        for (int more = 0; more <= 200 && thing >= 0 && man.is == 0; more++) {
            if (now.dares(man, thing, more)) {
                return more;
            }
        }
        return -2;
    }

    int cover(int men) {
        if (!within(men, 0, 6)) {
            return -1;
        }
        int[] all = now.rank.stream().filter(man -> !man.held).mapToInt(man -> premium(man.number))
            .filter(premium -> premium >= 0).sorted().toArray();
        return all.length < men ? -2 : Arrays.stream(all).limit(men).sum();
    }

    private int[] bestThings;
    private int bestWorth;

    /** Every match, in the order in which the first of several is due. */
    private void tryMatches(int[] things, int man, int worth) {
        if (man == told.men.size()) {
            if (worth > bestWorth) {
                bestWorth = worth;
                bestThings = things.clone();
            }
            return;
        }
        things[man] = -2;
        tryMatches(things, man + 1, worth);
        for (int thing = 0; thing < now.is.length; thing++) {
            boolean isFree = true;
            for (int other = 0; other < man; other++) {
                isFree &= things[other] != thing;
            }
            if (isFree && now.is[thing] == 0 && now.man(man).is != 2
                && told.things.get(thing)[1] <= now.man(man).skill) {
                things[man] = thing;
                tryMatches(things, man + 1, worth + told.things.get(thing)[0]);
            }
        }
        things[man] = -2;
    }

    int match(int what) {
        if (!within(what, 0, 6)) {
            return -1;
        }
        bestWorth = -1;
        int[] none = new int[6];
        Arrays.fill(none, -2);
        tryMatches(none, 0, 0);
        return what == 6 ? bestWorth : bestThings[what];
    }

    private void tryRows(List<Integer> row, int size) {
        if (row.size() == size) {
            State then = now.copy();
            for (int k = 0; k < size; k++) {
                then.rank.set(k, now.man(row.get(k)).copy());
            }
            int worth = then.steps(30).worth() - now.worth();
            if (worth > bestWorth) {
                bestWorth = worth;
                bestThings = row.stream().mapToInt(man -> man).toArray();
            }
            return;
        }
        for (int man = 0; man < told.men.size(); man++) {
            if (!row.contains(man) && now.rank.indexOf(now.man(man)) < size) {
                row.add(man);
                tryRows(row, size);
                row.remove(row.size() - 1);
            }
        }
    }

    int order(int what) {
        if (!within(what, 0, 4)) {
            return -1;
        }
        bestWorth = -1;
        tryRows(new ArrayList<>(), Math.min(4, told.men.size()));
        return what == 4 ? bestWorth : what < bestThings.length ? bestThings[what] : -2;
    }

    private List<Integer> allRests(int one, int other) {
        int[][] gains = new int[4][2];
        int[] both = {one, other};
        for (int who = 0; who < 2; who++) {
            Man man = now.man(both[who]);
            gains[0][who] = man.rue - man.fear / 4;
            gains[who == 0 ? 1 : 2][who] = man.rue - man.fear / 2;
            gains[who == 0 ? 2 : 1][who] = 0 - man.rue / 2;
            gains[3][who] = 0;
        }
        List<Integer> rests = new ArrayList<>();
        for (int k = 0; k < 4; k++) {
            if (gains[k][0] >= gains[k ^ 2][0] && gains[k][1] >= gains[k ^ 1][1]) {
                rests.add(k / 2 * 10 + k % 2);
            }
        }
        return rests;
    }

    int rests(int one, int other) {
        return isMan(one) && isMan(other) && one != other ? allRests(one, other).size() : -1;
    }

    int rest(int one, int other, int k) {
        if (!isMan(one) || !isMan(other) || one == other || k < 0) {
            return -1;
        }
        List<Integer> rests = allRests(one, other);
        return k < rests.size() ? rests.get(k) : -2;
    }

    long comesBack(int n, int what) {
        if (!within(n, 0, 6) || !within(what, 0, 1)) {
            return -1;
        }
        BigInteger above = BigInteger.valueOf(100 - told.setting("risk", 0)).pow(n);
        BigInteger below = BigInteger.valueOf(100).pow(n);
        return (what == 0 ? above : below).divide(above.gcd(below)).longValueExact();
    }

    int widow(int man, int n) {
        if (!isMan(man) || !within(n, 0, 99)) {
            return -1;
        }
        int sum = 0;
        int year = now.man(man).rue;
        for (int k = 0; k < n; k++) {
            sum += year;
            year = year * 9 / 10;
        }
        return sum;
    }

    int next(int thing) {
        if (!isThing(thing)) {
            return -1;
        }
        Man best = null;
        for (Man man : now.rank) {
            if (man.is == 0 && !man.held && told.things.get(thing)[1] <= man.skill
                && (best == null || man.skill > best.skill)) {
                best = man;
            }
        }
        return best == null ? -2 : best.number;
    }

    int see(int steps, int thing, boolean isSaved) {
        if (!within(steps, 1, 60) || !isThing(thing) || seen.size() == 24) {
            return -1;
        }
        seen.add(new int[] {steps, thing, isSaved ? 1 : 0});
        return seen.size() - 1;
    }

    int strike(int one) {
        if (!within(one, 0, seen.size() - 1) || seen.size() == 24) {
            return -1;
        }
        seen.add(new int[] {one});
        return seen.size() - 1;
    }

    boolean known(int n) {
        if (!within(n, -1, seen.size())) {
            return false;
        }
        knownBy = n;
        return true;
    }

    private boolean isStruck(int one, int size) {
        for (int k = one + 1; k < size; k++) {
            if (seen.get(k).length == 1 && seen.get(k)[0] == one && !isStruck(k, size)) {
                return true;
            }
        }
        return false;
    }

    int rues(int man) {
        if (!isMan(man)) {
            return -1;
        }
        int size = knownBy < 0 ? seen.size() : knownBy;
        int bits = 1023;
        for (int k = 0; k < size; k++) {
            int[] one = seen.get(k);
            for (int tens = 0; tens < 10 && one.length == 3 && !isStruck(k, size); tens++) {
                State then = new State(told);
                then.man(man).rue = 10 * tens;
                boolean isSaved = then.steps(one[0]).is[one[1]] == 2;
                bits &= isSaved == (one[2] == 1) ? -1 : ~(1 << tens);
            }
        }
        return bits;
    }

    int chance(int seed, int n, int things) {
        if (seed < 0 || !within(n, 1, 99) || !within(things, 0, 8)) {
            return -1;
        }
        int times = 0;
        long number = seed;
        for (int k = 0; k < 10; k++) {
            State then = now.copy();
            then.draws = true;
            then.number = number;
            times += then.steps(n).things(2) >= things ? 1 : 0;
            number = then.number;
        }
        return times;
    }

    int tried(int what, int i, int n) {
        if (!within(what, 0, 5) || !within(n, 0, 99) || (what == 2 ? !isMan(i) : i != 0)) {
            return -1;
        }
        State then = now.copy();
        then.noGusts = what == 1;
        then.noHurts = what == 3;
        then.noBurning = what == 4;
        then.noLooks = what == 5;
        if (what == 2) {
            then.man(i).held = true;
        }
        return then.steps(n).things(2) - now.things(2);
    }

    int undo() {
        if (undos.isEmpty()) {
            return -1;
        }
        undos.removeLast().run();
        return undos.size();
    }

    int keep() {
        image = now.copy();
        return now.step;
    }

    int back() {
        if (image == null) {
            return -1;
        }
        now = image.copy();
        undos.clear();
        return now.step;
    }

    int count(int what) {
        if (!within(what, 0, 14)) {
            return -1;
        }
        return new int[] {told.men.size(), told.things.size(), told.knots, now.step, now.things(2), now.things(3),
            now.men(2), now.men(1), now.heat, now.crowd, now.worth(), now.refused, seen.size(),
            knownBy < 0 ? seen.size() : knownBy, undos.size()}[what];
    }
}
