/** Promises 9 to 13 and 32 to 34: pay, swap, hold, wet, go, undo, keep, back. */
final class CallTest {
    public static void main(String[] args) {
        pays();
        swaps();
        holds();
        wets();
        goes();
        undoes();
        undoesTwentyAtMost();
        undoesInTurn();
        images();
        imageOfNumbers();
        Check.end();
    }

    private static void pays() {
        ColdFeet feet = Check.of("man a 9 0 1;man b 9 0 1;crowd 120;");
        Check.same("pay(0, 0)", feet.pay(0, 0), -1);
        Check.same("pay(0, 100)", feet.pay(0, 100), -1);
        Check.same("pay(0, -1)", feet.pay(0, -1), -1);
        Check.same("pay(-1, 1)", feet.pay(-1, 1), -1);
        Check.same("pay(2, 1)", feet.pay(2, 1), -1);
        Check.same("pay(0, 99)", feet.pay(0, 99), 21);
        Check.same("pay(1, 22)", feet.pay(1, 22), -2);
        Check.same("refusals of calls don't count", feet.count(11), 0);
        Check.same("only one deed", feet.count(14), 1);
        Check.same("pay(1, 21)", feet.pay(1, 21), 0);
        Check.same("pay(1, 1)", feet.pay(1, 1), -2);
        Check.same("looks of a", feet.man(0, 3), 99);
        Check.same("looks of b", feet.man(1, 3), 21);
        Check.same("the crowd's", feet.count(9), 0);
    }

    private static void places(ColdFeet feet, int... want) {
        for (int man = 0; man < want.length; man++) {
            Check.same("place of " + man, feet.man(man, 7), want[man]);
        }
    }

    private static void swaps() {
        ColdFeet feet = Check.of("man a 9 0 1;man b 9 0 1;man c 9 0 1;");
        Check.same("swap(0, 0)", feet.swap(0, 0), false);
        Check.same("swap(0, 3)", feet.swap(0, 3), false);
        Check.same("swap(-1, 0)", feet.swap(-1, 0), false);
        places(feet, 0, 1, 2);
        Check.same("swap(0, 2)", feet.swap(0, 2), true);
        places(feet, 2, 1, 0);
        Check.same("swap(0, 1)", feet.swap(0, 1), true);
        places(feet, 1, 2, 0);
        Check.same("undo", feet.undo(), 1);
        places(feet, 2, 1, 0);
        Check.same("undo", feet.undo(), 0);
        places(feet, 0, 1, 2);
    }

    private static void holds() {
        ColdFeet feet = Check.of("man a 0 9 9;thing t 5 2 50;thing u 5 1 50;");
        Check.same("hold(1, true)", feet.hold(1, true), false);
        Check.same("hold(-1, true)", feet.hold(-1, true), false);
        Check.same("hold(0, false)", feet.hold(0, false), false);
        Check.same("hold(0, true)", feet.hold(0, true), true);
        Check.same("hold(0, true) again", feet.hold(0, true), false);
        Check.same("held", feet.man(0, 8), 1);
        feet.go(2);
        Check.same("he doesn't go", feet.man(0, 4), 0);
        Check.same("hold(0, false)", feet.hold(0, false), true);
        feet.go(1);
        Check.same("he goes", feet.man(0, 4), 1);
        feet.hold(0, true);
        feet.go(3);
        Check.same("who is in comes out, held or not", feet.count(4), 1);
        Check.same("and stays out", feet.man(0, 4), 0);
    }

    private static void wets() {
        ColdFeet feet = Check.of("man a 0 9 9;thing t 5 1 1;thing u 5 1 2;thing v 5 1 90;");
        Check.same("wet(0, 0)", feet.wet(0, 0), -1);
        Check.same("wet(0, 21)", feet.wet(0, 21), -1);
        Check.same("wet(3, 1)", feet.wet(3, 1), -1);
        Check.same("wet(-1, 1)", feet.wet(-1, 1), -1);
        for (int k = 1; k <= 45; k++) {
            Check.same("wet(2, 20)", feet.wet(2, 20), 90 + 20 * k);
        }
        Check.same("wet at most", feet.wet(2, 20), 999);
        Check.same("wet at the most", feet.wet(2, 1), 999);
        feet.undo();
        feet.undo();
        Check.same("undone", feet.thing(2, 2), 990);
        feet.hold(0, true);
        Check.same("wet(1, 1)", feet.wet(1, 1), 3);
        feet.go(3);
        Check.same("t burns", feet.thing(0, 3), 3);
        Check.same("u is left", feet.thing(1, 3), 0);
        Check.same("wet of what is burnt", feet.wet(0, 1), -1);
        feet.go(1);
        Check.same("u burns", feet.thing(1, 3), 3);
        feet.hold(0, false);
        feet.go(1);
        Check.same("wet of what is taken", feet.wet(2, 1), -1);
        feet.go(1);
        Check.same("wet of what is saved", feet.wet(2, 1), -1);
    }

    private static void goes() {
        ColdFeet feet = new ColdFeet();
        Check.same("go(-1)", feet.go(-1), -1);
        Check.same("go(100)", feet.go(100), -1);
        Check.same("go(0)", feet.go(0), 0);
        for (int k = 1; k < 100; k++) {
            Check.same("go(99)", feet.go(99), 99 * k);
        }
        Check.same("go(98)", feet.go(98), 9899);
        Check.same("go(2)", feet.go(2), -1);
        Check.same("none went by", feet.count(3), 9899);
        Check.same("go(1)", feet.go(1), 9900);
        Check.same("go(1) behind 9900", feet.go(1), -1);
        Check.same("go(0) at 9900", feet.go(0), 9900);
        Check.same("ahead goes on", feet.ahead(99, 3), 999);
    }

    private static void undoes() {
        ColdFeet feet = Check.of("man a 9 0 1;man b 9 0 1;thing t 5 1 50;");
        Check.same("undo of nothing", feet.undo(), -1);
        feet.pay(0, 30);
        feet.hold(1, true);
        feet.wet(0, 7);
        feet.swap(0, 1);
        Check.same("four deeds", feet.count(14), 4);
        feet.pay(0, 100);
        feet.hold(1, true);
        feet.wet(0, 0);
        feet.swap(1, 1);
        Check.same("what wasn't done isn't undone", feet.count(14), 4);
        Check.same("go(0) leaves it", feet.go(0), 0);
        Check.same("go(100) leaves it", feet.go(100), -1);
        Check.same("undo swap", feet.undo(), 3);
        places(feet, 0, 1);
        Check.same("undo wet", feet.undo(), 2);
        Check.same("lasts", feet.thing(0, 2), 50);
        Check.same("undo hold", feet.undo(), 1);
        Check.same("held", feet.man(1, 8), 0);
        Check.same("undo pay", feet.undo(), 0);
        Check.same("looks", feet.man(0, 3), 0);
        Check.same("crowd", feet.count(9), 99);
        Check.same("undo of nothing more", feet.undo(), -1);
        feet.pay(0, 1);
        feet.go(1);
        Check.same("not behind a step", feet.undo(), -1);
        Check.same("looks stay", feet.man(0, 3), 1);
    }

    private static void undoesTwentyAtMost() {
        ColdFeet feet = Check.of("man a 9 0 1;");
        for (int k = 1; k <= 23; k++) {
            feet.pay(0, k % 4 + 1);
        }
        Check.same("what can be undone", feet.count(14), 20);
        for (int k = 19; k >= 0; k--) {
            Check.same("undo", feet.undo(), k);
        }
        Check.same("the first three stay", feet.man(0, 3), 9);
        Check.same("undo of the 21st", feet.undo(), -1);
    }

    private static void undoesInTurn() {
        ColdFeet feet = Check.of("man a 9 0 1;man b 9 0 1;man c 9 0 1;thing t 5 1 50;");
        feet.hold(0, true);
        feet.hold(0, false);
        feet.wet(0, 3);
        feet.wet(0, 4);
        feet.undo();
        Check.same("the latest wetting", feet.thing(0, 2), 53);
        feet.pay(2, 5);
        feet.undo();
        feet.undo();
        feet.undo();
        Check.same("held again", feet.man(0, 8), 1);
    }

    private static void images() {
        ColdFeet feet = Check.of("man a 0 9 9;man b 0 9 9;thing t 5 1 50;thing u 7 2 50;look a 0 50;look b 0 80;law after 3;");
        Check.same("back without", feet.back(), -1);
        feet.go(1);
        feet.wet(1, 9);
        feet.swap(0, 1);
        feet.hold(1, true);
        feet.pay(1, 7);
        Check.same("keep", feet.keep(), 1);
        Check.same("keep leaves what can be undone", feet.count(14), 4);
        feet.go(9);
        feet.hold(1, false);
        feet.see(3, 0, true);
        Check.same("back", feet.back(), 1);
        Check.same("nothing to undo", feet.undo(), -1);
        Check.same("what was seen stays", feet.count(12), 1);
        NowTest.man(feet, 0, 0, 9, 9, 50, 1, 0, 1, 1, 0);
        NowTest.man(feet, 1, 0, 9, 9, 7, 1, 1, 1, 0, 1);
        NowTest.thing(feet, 0, 5, 1, 50, 1, 0);
        NowTest.thing(feet, 1, 7, 2, 59, 0, 1);
        NowTest.counts(feet, 2, 2, 1, 1, 0, 0, 0, 2, 1, 42, 0, 1);
        feet.go(9);
        Check.same("saved then", feet.count(4), 2);
        Check.same("keep in place of one ahead", feet.keep(), 10);
        feet.go(1);
        Check.same("back to it", feet.back(), 10);
        Check.same("back once more", feet.back(), 10);
    }

    private static void imageOfNumbers() {
        ColdFeet feet = Check.of("gust 40;heat 0;seed 1;");
        feet.go(2);
        feet.keep();
        int[] heats = {10, 15, 15, 20, 25, 30, 35, 35};
        for (int turn = 0; turn < 2; turn++) {
            for (int heat : heats) {
                feet.go(1);
                Check.same("heat by numbers", feet.count(8), heat);
            }
            feet.back();
        }
    }
}
