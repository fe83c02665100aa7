import java.util.ArrayList;
import java.util.List;
import java.util.NoSuchElementException;
import java.util.function.ToLongFunction;

/** A call that is refused, or that only asks, changes nothing: an object goes on as its twin without that call. */
final class RefusedTest {
    private static final String TEXT = "man a 9 5 3;man b 0 50 2;man c 5 90 9;thing t 5 2 40;thing u 7 1 30;thing v 9 6 2;"
        + "look a 2 5;look c 3 90;risk 20;gust 20;seed 7;law after depth;";
    private static final int NO_MAN = -1000001;
    private static final int NO_WHAT = -1000002;
    private static final int[] NUMBERS = {Integer.MIN_VALUE, -3, -2, -1, 0, 1, 2, 3, 4, 5, 6, 7, 8, 9, 10, 15, 20, 21, 24, 25, 60,
        61, 99, 100, 101, 999, 10000, Integer.MAX_VALUE};

    /** A call with its name and what it answers when it is refused. */
    private record Call(String name, ToLongFunction<ColdFeet> call, long refused) {
    }

    private static final List<Call> CALLS = new ArrayList<>();

    public static void main(String[] args) {
        tellRefusedByNumbers();
        tellRefusedByMen();
        tellRefusedByThings();
        tellRefusedByState();
        for (Call call : CALLS) {
            goesOnAsItsTwin(call, true);
        }
        int refused = CALLS.size();
        tellAsks();
        for (Call call : CALLS.subList(refused, CALLS.size())) {
            goesOnAsItsTwin(call, false);
        }
        textWithAFault();
        fullTape();
        nothingToUndo();
        nothingIsThrown();
        Check.end();
    }

    private static void tell(String name, ToLongFunction<ColdFeet> call, long refused) {
        CALLS.add(new Call(name, call, refused));
    }

    private static long manOf(ColdFeet feet, int man, int what) {
        try {
            return feet.man(man, what);
        } catch (IndexOutOfBoundsException e) {
            return NO_MAN;
        } catch (NoSuchElementException e) {
            return NO_WHAT;
        }
    }

    private static void tellRefusedByNumbers() {
        for (int n : new int[] {Integer.MIN_VALUE, -1, 21, Integer.MAX_VALUE}) {
            tell("text " + n, feet -> feet.text(n), -2);
        }
        for (int n : new int[] {Integer.MIN_VALUE, -1, 100, Integer.MAX_VALUE}) {
            tell("go " + n, feet -> feet.go(n), -1);
            tell("ahead " + n, feet -> feet.ahead(n, 0), -1);
            tell("widow " + n, feet -> feet.widow(0, n), -1);
            tell("tried " + n, feet -> feet.tried(0, 0, n), -1);
            tell("pay " + n, feet -> feet.pay(0, n), -1);
            tell("chance " + n, feet -> feet.chance(1, n, 1), -1);
            tell("wet " + n, feet -> feet.wet(1, n), -1);
            tell("see " + n, feet -> feet.see(n, 0, true), -1);
            tell("cover " + n, feet -> feet.cover(n), -1);
            tell("match " + n, feet -> feet.match(n), -1);
            tell("order " + n, feet -> feet.order(n), -1);
            tell("comesBack " + n, feet -> feet.comesBack(n, 0), -1);
            tell("count " + n, feet -> feet.count(n), -1);
            tell("fault " + n, feet -> feet.fault(n), -1);
            tell("named " + n, feet -> feet.named(n, Check.letters("a")), -1);
            tell("chance things " + n, feet -> feet.chance(1, 1, n), -1);
            tell("tried what " + n, feet -> feet.tried(n, 0, 1), -1);
            tell("ahead what " + n, feet -> feet.ahead(1, n), -1);
            tell("man what " + n, feet -> manOf(feet, 0, n), NO_WHAT);
            tell("thing what " + n, feet -> feet.thing(0, n), -1);
            tell("law what " + n, feet -> feet.law(n, 0), Long.MIN_VALUE);
        }
        tell("pay 0", feet -> feet.pay(0, 0), -1);
        tell("wet 0", feet -> feet.wet(1, 0), -1);
        tell("wet 21", feet -> feet.wet(1, 21), -1);
        tell("see 0", feet -> feet.see(0, 0, true), -1);
        tell("see 61", feet -> feet.see(61, 0, true), -1);
        tell("chance 0", feet -> feet.chance(1, 0, 1), -1);
        tell("chance of -1", feet -> feet.chance(-1, 1, 1), -1);
        tell("chance things 9", feet -> feet.chance(1, 1, 9), -1);
        tell("rest -1", feet -> feet.rest(0, 1, -1), -1);
        tell("known -2", feet -> feet.known(-2) ? 1 : 0, 0);
        tell("known 4", feet -> feet.known(4) ? 1 : 0, 0);
        tell("strike -1", feet -> feet.strike(-1), -1);
        tell("strike 3", feet -> feet.strike(3), -1);
        tell("tried 0 1", feet -> feet.tried(0, 1, 1), -1);
    }

    private static void tellRefusedByMen() {
        for (int man : new int[] {Integer.MIN_VALUE, -1, 3, 6, Integer.MAX_VALUE}) {
            tell("man " + man, feet -> manOf(feet, man, 0), NO_MAN);
            tell("law " + man, feet -> feet.law(1, man), Long.MIN_VALUE);
            tell("pay to " + man, feet -> feet.pay(man, 1), -1);
            tell("swap " + man + " 0", feet -> feet.swap(man, 0) ? 1 : 0, 0);
            tell("swap 0 " + man, feet -> feet.swap(0, man) ? 1 : 0, 0);
            tell("hold " + man, feet -> feet.hold(man, true) ? 1 : 0, 0);
            tell("goes " + man, feet -> feet.goes(man), -1);
            tell("premium " + man, feet -> feet.premium(man), -1);
            tell("rests " + man, feet -> feet.rests(man, 0), -1);
            tell("rest 0 " + man, feet -> feet.rest(0, man, 0), -1);
            tell("widow of " + man, feet -> feet.widow(man, 1), -1);
            tell("rues " + man, feet -> feet.rues(man), -1);
            tell("tried 2 " + man, feet -> feet.tried(2, man, 1), -1);
        }
        tell("swap 1 1", feet -> feet.swap(1, 1) ? 1 : 0, 0);
        tell("rests 1 1", feet -> feet.rests(1, 1), -1);
        tell("rest 1 1 0", feet -> feet.rest(1, 1, 0), -1);
    }

    private static void tellRefusedByThings() {
        for (int thing : new int[] {Integer.MIN_VALUE, -1, 3, 8, Integer.MAX_VALUE}) {
            tell("thing " + thing, feet -> feet.thing(thing, 0), -1);
            tell("wet of " + thing, feet -> feet.wet(thing, 1), -1);
            tell("out " + thing, feet -> feet.out(thing), -1);
            tell("next " + thing, feet -> feet.next(thing), -1);
            tell("see of " + thing, feet -> feet.see(1, thing, true), -1);
        }
    }

    private static void tellRefusedByState() {
        tell("pay more than the crowd has", feet -> feet.pay(0, 70), -2);
        tell("hold who is held", feet -> feet.hold(0, true) ? 1 : 0, 0);
        tell("hold no more who isn't held", feet -> feet.hold(1, false) ? 1 : 0, 0);
        tell("wet what is taken", feet -> feet.wet(0, 1), -1);
        tell("named nobody", feet -> feet.named(0, Check.letters("t")), -1);
        tell("law that isn't told", feet -> feet.law(2, 0), Long.MIN_VALUE);
        tell("rest 9", feet -> feet.rest(0, 1, 9), -2);
        tell("premium of who is in", feet -> feet.premium(1), -2);
    }

    private static void tellAsks() {
        tell("ahead", feet -> feet.ahead(99, 0), 0);
        tell("goes", feet -> feet.goes(0), 0);
        tell("out", feet -> feet.out(0), 0);
        tell("premium", feet -> feet.premium(0), 0);
        tell("cover", feet -> feet.cover(2), 0);
        tell("match", feet -> feet.match(6), 0);
        tell("order", feet -> feet.order(0), 0);
        tell("rests", feet -> feet.rests(0, 1), 0);
        tell("rest", feet -> feet.rest(0, 1, 0), 0);
        tell("comesBack", feet -> feet.comesBack(6, 1), 0);
        tell("widow", feet -> feet.widow(2, 99), 0);
        tell("next", feet -> feet.next(0), 0);
        tell("rues", feet -> feet.rues(1), 0);
        tell("chance", feet -> feet.chance(2147483647, 99, 2), 0);
        tell("tried held", feet -> feet.tried(2, 1, 99), 0);
        tell("tried no looks", feet -> feet.tried(5, 0, 99), 0);
        tell("tried no burning", feet -> feet.tried(4, 0, 99), 0);
        tell("law", feet -> feet.law(1, 1), 0);
        tell("go 0", feet -> feet.go(0), 0);
        tell("known by the same", feet -> feet.known(2) ? 1 : 0, 0);
        tell("named", feet -> feet.named(1, Check.letters("u")), 0);
        tell("fault", feet -> feet.fault(1), 0);
    }

    /** Some of all that can be: an image, deeds, what was seen, bytes on the tape. */
    private static ColdFeet busy() {
        ColdFeet feet = Check.of(TEXT);
        feet.go(1);
        feet.pay(2, 9);
        feet.keep();
        feet.go(1);
        feet.pay(0, 20);
        feet.pay(1, 10);
        feet.hold(0, true);
        feet.swap(0, 2);
        feet.wet(1, 7);
        feet.see(4, 0, true);
        feet.see(2, 1, false);
        feet.strike(1);
        feet.known(2);
        feet.feed(0x20202020, 0x20202020, 0x21202020, 0x20202020, 0x20202020);
        return feet;
    }

    private static void goesOnAsItsTwin(Call call, boolean isRefused) {
        Check.about(call.name);
        ColdFeet feet = busy();
        ColdFeet twin = busy();
        long answer = call.call.applyAsLong(feet);
        if (isRefused) {
            Check.same("refused", answer, call.refused);
        }
        alike(feet, twin);
        Check.same("the tape", feet.feed(0, 0, 0, 0, 0), twin.feed(0, 0, 0, 0, 0));
        Check.same("its text", feet.text(20), twin.text(20));
        Check.same("its fault", feet.fault(1), twin.fault(1));
    }

    private static void alike(ColdFeet feet, ColdFeet twin) {
        Check.same("all", Show.all(feet), Show.all(twin));
        for (int k = 0; k < 3; k++) {
            Check.same("undo", feet.undo(), twin.undo());
        }
        Check.same("undone", Show.state(feet), Show.state(twin));
        Check.same("go", feet.go(5), twin.go(5));
        Check.same("gone", Show.state(feet), Show.state(twin));
        Check.same("back", feet.back(), twin.back());
        Check.same("as in the image", Show.state(feet), Show.state(twin));
        Check.same("go from there", feet.go(9), twin.go(9));
        Check.same("gone from there", Show.state(feet), Show.state(twin));
    }

    private static void textWithAFault() {
        Check.about("Promise 3: NONE with a FAULT, all stays");
        String[] texts = {"!", "man", "man a 1 1 1;man b 1 1 1;thing t 1 1 1;crowd 5;heat 5;law after 1;law dare 0;!",
            "crowd 1000;", "man z 1 1 1;man z 1 1 1;", "look a 1 1;", "risk 100;gust 100;seed 5;look b 0 1;",
            "law dare 1;law hurt 100;law after 1/", "law dare " + "(".repeat(9)};
        for (String text : texts) {
            ColdFeet feet = busy();
            ColdFeet twin = busy();
            feet.text(-1);
            // what was on the tape is a fault at once; the texts come behind it, on an empty tape
            Check.same("what was on the tape", feet.text(20), -1);
            Check.same(text, Check.tell(feet, text), -1);
            alike(feet, twin);
            Check.same("the tape is empty", feet.feed(0, 0, 0, 0, 0), 20);
        }
    }

    private static void fullTape() {
        Check.about("Promise 2: NONE, and none come");
        ColdFeet feet = busy();
        ColdFeet twin = busy();
        for (int k = 2; k <= 35; k++) {
            feet.feed(0, 0, 0, 0, 0);
            twin.feed(0, 0, 0, 0, 0);
        }
        for (int k = 0; k < 3; k++) {
            Check.same("feed", feet.feed(0x20202020, 0x20202020, 0x20202020, 0x20202020, 0x20202020), -1);
        }
        alike(feet, twin);
        Check.same("text(701)", feet.text(701), -2);
        Check.same("text(700)", feet.text(700), -1);
        Check.same("its place", feet.fault(1), 8);
    }

    private static void nothingToUndo() {
        Check.about("undo() NONE: none; back() NONE: there is none");
        ColdFeet feet = Check.of(TEXT);
        ColdFeet twin = Check.of(TEXT);
        Check.same("undo", feet.undo(), -1);
        Check.same("back", feet.back(), -1);
        Check.same("all", Show.all(feet), Show.all(twin));
        feet.go(6);
        twin.go(6);
        Check.same("undo", feet.undo(), -1);
        Check.same("back", feet.back(), -1);
        Check.same("all then", Show.all(feet), Show.all(twin));
    }

    /** Every call with every number of a row, on an empty object, a busy one and a full one: only man() throws. */
    private static void nothingIsThrown() {
        Check.about("LANGUAGE.md 7: No call may ever throw by itself");
        StringBuilder full = new StringBuilder();
        for (int k = 0; k < 6; k++) {
            full.append("man ").append((char) ('a' + k)).append(" 9 9 9;");
        }
        for (int k = 0; k < 8; k++) {
            full.append("thing ").append((char) ('a' + k)).append(" 9 2 99;");
        }
        full.append("law dare looks/(fear-9) or 1;law hurt ").append("not ".repeat(40)).append("1/0;");
        int thrown = 0;
        for (int a : NUMBERS) {
            for (int b : NUMBERS) {
                for (int which = 0; which < 3; which++) {
                    ColdFeet feet = which == 0 ? new ColdFeet() : which == 1 ? busy() : Check.of(full.toString());
                    thrown += throwsWith(feet, a, b) ? 1 : 0;
                }
            }
        }
        Check.same("how many throw", thrown, 0);
    }

    private static boolean throwsWith(ColdFeet feet, int a, int b) {
        try {
            feet.feed(a, b, a, b, a);
            feet.named(a, b);
            feet.thing(a, b);
            feet.law(a, b);
            feet.pay(a, b);
            feet.swap(a, b);
            feet.hold(a, b > 0);
            feet.wet(a, b);
            feet.go(a);
            feet.ahead(a, b);
            feet.goes(a);
            feet.out(a);
            feet.premium(a);
            feet.cover(a);
            feet.match(a);
            feet.order(a);
            feet.rests(a, b);
            feet.rest(a, b, a);
            feet.rest(0, 1, a);
            feet.comesBack(a, b);
            feet.widow(a, b);
            feet.next(a);
            feet.see(a, b, true);
            feet.strike(a);
            feet.known(a);
            feet.rues(a);
            feet.chance(a, b, 1);
            feet.chance(1, a, b);
            feet.tried(a, b, 5);
            feet.tried(2, a, b);
            feet.undo();
            feet.keep();
            feet.back();
            feet.count(a);
            feet.fault(a);
            manOf(feet, a, b);
            feet.text(a);
            return false;
        } catch (RuntimeException e) {
            System.out.println("with " + a + ", " + b + ": " + e);
            return true;
        }
    }
}
