/** Promises 19 to 25: match, order, rests, rest, comesBack, widow, next. */
final class MatchTest {
    public static void main(String[] args) {
        matches();
        firstOfSeveralMatches();
        matchesOfWhatIsLeft();
        orders();
        ordersOfWhatIsSavedLater();
        ordersOfFour();
        rests();
        comesBack();
        widows();
        nexts();
        Check.end();
    }

    private static void match(ColdFeet feet, int... want) {
        for (int what = 0; what < 7; what++) {
            Check.same("match(" + what + ")", feet.match(what), want[what]);
        }
    }

    private static void matches() {
        ColdFeet feet = Check.of("man a 0 0 9;man b 0 0 3;man c 0 0 1;thing t 50 3 9;thing u 60 4 9;thing v 1 6 9;");
        match(feet, 1, 0, -2, -2, -2, -2, 110);
        Check.same("match(7)", feet.match(7), -1);
        Check.same("match(-1)", feet.match(-1), -1);
        match(new ColdFeet(), -2, -2, -2, -2, -2, -2, 0);
        ColdFeet all = Check.of("man a 0 0 9;man b 0 0 9;man c 0 0 9;man d 0 0 9;man e 0 0 9;man f 0 0 6;"
            + "thing s 1 1 9;thing t 2 2 9;thing u 3 3 9;thing v 4 4 9;thing w 5 5 9;thing x 6 6 9;thing y 7 6 9;thing z 8 6 9;");
        match(all, 2, 3, 4, 5, 6, 7, 33);
    }

    private static void firstOfSeveralMatches() {
        match(Check.of("man a 0 0 2;man b 0 0 2;man c 0 0 2;thing t 5 1 9;thing u 5 2 9;"), -2, 0, 1, -2, -2, -2, 10);
        match(Check.of("man a 0 0 2;man b 0 0 1;man c 0 0 2;thing t 5 2 9;thing u 5 1 9;"), -2, 1, 0, -2, -2, -2, 10);
        match(Check.of("man a 0 0 2;thing t 5 1 9;thing u 5 2 9;"), 0, -2, -2, -2, -2, -2, 5);
    }

    private static void matchesOfWhatIsLeft() {
        ColdFeet feet = Check.of("man a 0 9 9;man b 0 9 9;man c 9 0 9;thing t 9 2 9;thing u 8 1 9;thing v 7 1 0;"
            + "law hurt (fear=0)*(depth=1)*100;law dare fear=0;");
        feet.hold(2, true);
        match(feet, 0, 1, 2, -2, -2, -2, 24);
        feet.go(1);
        match(feet, 0, -2, 1, -2, -2, -2, 17);
        feet.go(1);
        match(feet, -2, -2, 1, -2, -2, -2, 8);
    }

    private static void order(ColdFeet feet, int... want) {
        for (int what = 0; what < 5; what++) {
            Check.same("order(" + what + ")", feet.order(what), want[what]);
        }
    }

    private static void orders() {
        String things = "thing t 5 6 99;thing u 50 1 0;law dare fear<>depth;";
        ColdFeet feet = Check.of("man a 6 0 9;man b 0 0 9;" + things);
        order(feet, 1, 0, -2, -2, 55);
        Check.same("order(5)", feet.order(5), -1);
        Check.same("order(-1)", feet.order(-1), -1);
        Check.same("the rank stays", feet.man(0, 7), 0);
        order(Check.of("man a 6 0 9;" + things), 0, -2, -2, -2, 0);
        order(new ColdFeet(), -2, -2, -2, -2, 0);
        ColdFeet later = Check.of("man a 0 0 9;man b 0 0 9;thing t 5 1 99;thing u 50 1 99;");
        later.swap(0, 1);
        later.go(1);
        order(later, 0, 1, -2, -2, 55);
        later.go(1);
        order(later, 0, 1, -2, -2, 0);
        ColdFeet late = Check.of("man a 0 0 9;thing t 5 1 99;law dare step=28;");
        order(late, 0, -2, -2, -2, 5);
        late = Check.of("man a 0 0 9;thing t 5 1 99;law dare step=29;");
        order(late, 0, -2, -2, -2, 0);
    }

    /** What was SAVED ahead of the call isn't SAVED in the 30 STEPS. */
    private static void ordersOfWhatIsSavedLater() {
        ColdFeet feet = Check.of("man a 6 0 9;man b 0 0 9;thing s 9 1 99;thing t 5 6 99;thing u 50 1 2;"
            + "law dare step<>1 and fear<>depth;");
        feet.hold(0, true);
        feet.go(2);
        Check.same("s is saved", feet.count(10), 9);
        feet.hold(0, false);
        order(feet, 1, 0, -2, -2, 55);
        feet.swap(0, 1);
        feet.go(2);
        Check.same("s, u are saved", feet.count(10), 59);
        order(feet, 0, 1, -2, -2, 5);
    }

    private static void ordersOfFour() {
        String things = "thing t 5 6 99;thing u 50 1 0;law dare fear<>depth and fear<9;";
        ColdFeet feet = Check.of("man a 9 0 9;man b 6 0 9;man c 0 0 9;man d 9 0 9;man e 9 0 9;man f 9 0 9;" + things);
        order(feet, 0, 2, 1, 3, 55);
        feet.swap(2, 5);
        order(feet, 0, 1, 3, 5, 5);
        feet.swap(4, 0);
        order(feet, 1, 3, 4, 5, 5);
        feet.swap(2, 5);
        order(feet, 2, 1, 3, 4, 55);
    }

    private static void rests(String men, int... want) {
        ColdFeet feet = Check.of(men);
        Check.same("rests of " + men, feet.rests(0, 1), want.length);
        for (int k = 0; k < want.length; k++) {
            Check.same("rest " + k + " of " + men, feet.rest(0, 1, k), want[k]);
        }
        Check.same("no rest more of " + men, feet.rest(0, 1, want.length), -2);
    }

    private static void rests() {
        rests("man a 30 20 3;man b 10 10 2;", 0);
        rests("man a 80 30 1;man b 80 30 1;", 0, 11);
        rests("man a 99 0 1;man b 99 0 1;", 11);
        rests("man a 99 0 1;man b 0 50 1;", 10);
        rests("man a 0 50 1;man b 99 0 1;", 1);
        rests("man a 0 0 1;man b 0 0 1;", 0, 1, 10, 11);
        rests("man a 99 16 1;man b 99 15 1;", 11);
        rests("man a 99 16 1;man b 99 16 1;", 0, 11);
        rests("man a 5 2 1;man b 5 2 1;", 0, 11);
        rests("man a 5 3 1;man b 5 3 1;", 0);
        ColdFeet feet = Check.of("man a 99 0 1;man b 0 50 1;");
        Check.same("the other way round", feet.rest(1, 0, 0), 1);
        Check.same("rests(0, 0)", feet.rests(0, 0), -1);
        Check.same("rests(0, 2)", feet.rests(0, 2), -1);
        Check.same("rests(-1, 0)", feet.rests(-1, 0), -1);
        Check.same("rest(0, 0, 0)", feet.rest(0, 0, 0), -1);
        Check.same("rest(2, 0, 0)", feet.rest(2, 0, 0), -1);
        Check.same("rest(0, 1, -1)", feet.rest(0, 1, -1), -1);
        Check.same("rest(0, 1, 9)", feet.rest(0, 1, 9), -2);
    }

    private static void comesBack() {
        long[][] rows = {{60, 0, 1, 1}, {60, 1, 2, 5}, {60, 6, 64, 15625}, {0, 6, 1, 1}, {100, 0, 1, 1}, {100, 3, 0, 1},
            {1, 6, 941480149401L, 1000000000000L}, {50, 2, 1, 4}, {33, 2, 4489, 10000}, {25, 3, 27, 64}};
        for (long[] row : rows) {
            ColdFeet feet = Check.of("risk " + row[0] + ";");
            Check.same("risk " + row[0] + " above " + row[1], feet.comesBack((int) row[1], 0), row[2]);
            Check.same("risk " + row[0] + " below " + row[1], feet.comesBack((int) row[1], 1), row[3]);
        }
        ColdFeet feet = new ColdFeet();
        Check.same("comesBack(7, 0)", feet.comesBack(7, 0), -1);
        Check.same("comesBack(-1, 0)", feet.comesBack(-1, 0), -1);
        Check.same("comesBack(0, 2)", feet.comesBack(0, 2), -1);
        Check.same("comesBack(0, -1)", feet.comesBack(0, -1), -1);
    }

    private static void widows() {
        ColdFeet feet = Check.of("man a 0 99 1;man b 0 0 1;thing t 1 1 9;law after 0-9;");
        int[] sums = {0, 99, 188, 268, 340};
        for (int n = 0; n < sums.length; n++) {
            Check.same("widow(0, " + n + ")", feet.widow(0, n), sums[n]);
        }
        Check.same("widow(1, 99)", feet.widow(1, 99), 0);
        Check.same("widow(0, 100)", feet.widow(0, 100), -1);
        Check.same("widow(0, -1)", feet.widow(0, -1), -1);
        Check.same("widow(2, 1)", feet.widow(2, 1), -1);
        Check.same("widow(-1, 1)", feet.widow(-1, 1), -1);
        feet.go(2);
        Check.same("by rue now", feet.widow(0, 2), 171);
    }

    private static void nexts() {
        ColdFeet feet = Check.of("man a 0 9 3;man b 9 0 5;man c 9 0 5;man d 9 0 2;thing t 1 2 9;thing u 1 3 9;thing v 1 6 9;");
        Check.same("next(0)", feet.next(0), 1);
        Check.same("next(1)", feet.next(1), 1);
        Check.same("next(2)", feet.next(2), -2);
        Check.same("next(3)", feet.next(3), -1);
        Check.same("next(-1)", feet.next(-1), -1);
        feet.swap(2, 0);
        Check.same("by the rank", feet.next(0), 2);
        feet.hold(2, true);
        Check.same("not who is held", feet.next(0), 1);
        feet.hold(1, true);
        Check.same("less skill", feet.next(0), 0);
        feet.go(1);
        Check.same("not who is in", feet.next(0), 3);
        Check.same("nobody", feet.next(1), -2);
    }
}
