/** Promises 14 to 18 and 31: ahead, goes, out, premium, cover, tried. */
final class AheadTest {
    private static final String HOUSE = "man ann 30 20 3;man bo 10 10 2;thing cat 9 1 9;thing box 40 2 3;"
        + "look ann 1 15;look bo 2 99;crowd 20;";

    public static void main(String[] args) {
        ahead();
        aheadIsMore();
        oddsOfFifty();
        goes();
        outs();
        premiums();
        premiumsByLaw();
        covers();
        trieds();
        nothingChanges();
        Check.end();
    }

    private static void ahead() {
        ColdFeet feet = Check.of(HOUSE);
        int[][] rows = {{0, 0, 0, 0, 0, 20}, {1, 0, 0, 0, 1, 20}, {2, 1, 0, 0, 2, 14}, {4, 1, 0, 0, 4, 14},
            {5, 2, 0, 0, 5, 54}, {99, 2, 0, 0, 99, 54}};
        for (int[] row : rows) {
            for (int what = 0; what < 5; what++) {
                Check.same("ahead(" + row[0] + ", " + what + ")", feet.ahead(row[0], what), row[what + 1]);
            }
        }
        Check.same("ahead(-1, 0)", feet.ahead(-1, 0), -1);
        Check.same("ahead(100, 0)", feet.ahead(100, 0), -1);
        Check.same("ahead(0, 5)", feet.ahead(0, 5), -1);
        Check.same("ahead(0, -1)", feet.ahead(0, -1), -1);
    }

    private static void aheadIsMore() {
        ColdFeet feet = Check.of("man a 0 9 9;man b 0 9 9;thing t 5 1 50;thing u 5 3 50;thing v 5 1 0;"
            + "law dare step=0;law hurt (step>=2)*100;");
        feet.go(2);
        Check.same("saved by now", feet.count(4), 1);
        Check.same("burnt by now", feet.count(5), 1);
        Check.same("none more is saved", feet.ahead(9, 0), 0);
        Check.same("burnt more", feet.ahead(9, 1), 0);
        Check.same("hurt more", feet.ahead(9, 2), 1);
        feet.go(2);
        Check.same("hurt by now", feet.count(6), 1);
        Check.same("none is hurt more", feet.ahead(9, 2), 0);
        Check.same("burnt more at 50", feet.ahead(46, 1), 0);
        Check.same("burnt more behind 50", feet.ahead(47, 1), 1);
    }

    private static void oddsOfFifty() {
        String told = "man a 0 9 9;thing t 5 1 50;heat 0;";
        ColdFeet sure = Check.of(told + "risk 50;gust 50;");
        Check.same("hurt at 50", sure.ahead(1, 2), 1);
        Check.same("gusts at 50", sure.ahead(3, 3), 15);
        ColdFeet safe = Check.of(told + "risk 49;gust 49;");
        Check.same("not hurt at 49", safe.ahead(3, 2), 0);
        Check.same("no gusts at 49", safe.ahead(3, 3), 0);
    }

    private static void goes() {
        ColdFeet feet = Check.of(HOUSE + "thing c 1 1 99;thing d 1 1 99;");
        Check.same("goes(0)", feet.goes(0), 2);
        Check.same("goes(1)", feet.goes(1), 1);
        Check.same("goes(2)", feet.goes(2), -1);
        Check.same("goes(-1)", feet.goes(-1), -1);
        feet.hold(1, true);
        Check.same("held", feet.goes(1), -2);
        ColdFeet twice = Check.of("man a 0 9 9;thing t 5 3 99;thing u 5 1 99;");
        twice.go(2);
        Check.same("from within", twice.goes(0), 5);
        ColdFeet late = Check.of("man a 0 9 9;thing t 5 3 99;law dare step>=98;");
        Check.same("in 99 steps", late.goes(0), 99);
        ColdFeet never = Check.of("man a 0 9 9;thing t 5 3 99;law dare step>=99;");
        Check.same("not by then", never.goes(0), -2);
        ColdFeet hurt = Check.of("man a 0 9 9;thing t 5 3 99;risk 100;");
        Check.same("he goes in and is hurt at once", hurt.goes(0), 1);
        hurt.go(1);
        Check.same("no more", hurt.goes(0), -2);
    }

    private static void outs() {
        ColdFeet feet = Check.of(HOUSE + "thing c 1 1 2;");
        Check.same("out(0)", feet.out(0), 2);
        Check.same("out(1)", feet.out(1), 5);
        Check.same("out(2)", feet.out(2), -2);
        Check.same("out(3)", feet.out(3), -1);
        Check.same("out(-1)", feet.out(-1), -1);
        feet.go(1);
        Check.same("out(0) later", feet.out(0), 1);
        feet.go(1);
        Check.same("out(0) of what is saved", feet.out(0), 0);
        ColdFeet late = Check.of("man a 0 9 9;thing t 5 3 99;law dare step>=93;");
        Check.same("in 99 steps", late.out(0), 99);
        late = Check.of("man a 0 9 9;thing t 5 3 99;law dare step>=94;");
        Check.same("not by then", late.out(0), -2);
    }

    private static void premiums() {
        ColdFeet feet = Check.of(HOUSE);
        Check.same("premium(0)", feet.premium(0), 10);
        Check.same("premium(1)", feet.premium(1), 0);
        Check.same("premium(2)", feet.premium(2), -1);
        Check.same("premium(-1)", feet.premium(-1), -1);
        feet.hold(0, true);
        Check.same("held ones have one", feet.premium(0), 10);
        feet.pay(0, 4);
        Check.same("fewer by what he has", feet.premium(0), 6);
        feet.go(1);
        Check.same("heat is more", feet.premium(0), 7);
        Check.same("one who is in", feet.premium(1), -2);
        Check.same("no such thing", Check.of("man a 0 0 1;").premium(0), -2);
        ColdFeet hurt = Check.of("man a 0 0 1;man b 99 0 1;thing t 1 1 99;thing u 1 1 99;risk 100;heat 0;");
        hurt.go(1);
        Check.same("one who is hurt", hurt.premium(0), -2);
        Check.same("99 and no heat", hurt.premium(1), 99);
    }

    private static void premiumsByLaw() {
        String told = "man a 0 0 1;thing t 1 2 99;thing u 1 1 99;law dare ";
        Check.same("200 at most", Check.of(told + "looks>=200;").premium(0), 200);
        Check.same("by none", Check.of(told + "looks>200;").premium(0), -2);
        Check.same("never", Check.of(told + "0;").premium(0), -2);
        Check.same("by the thing", Check.of(told + "looks=depth*3;").premium(0), 6);
        Check.same("not always more", Check.of(told + "looks<0 or looks=7 or looks=9;").premium(0), 7);
        Check.same("by an error", Check.of("man a 9 0 1;thing t 1 2 99;law dare 0/(looks-12)+(looks=20);").premium(0), 12);
    }

    private static void covers() {
        ColdFeet feet = Check.of("man a 30 20 3;man b 10 10 2;man c 50 47 1;man d 99 0 1;thing t 9 1 9;");
        int[] sums = {0, 0, 3, 13, 112};
        for (int men = 0; men < sums.length; men++) {
            Check.same("cover(" + men + ")", feet.cover(men), sums[men]);
        }
        Check.same("cover(5)", feet.cover(5), -2);
        Check.same("cover(6)", feet.cover(6), -2);
        Check.same("cover(7)", feet.cover(7), -1);
        Check.same("cover(-1)", feet.cover(-1), -1);
        feet.hold(1, true);
        Check.same("held ones not", feet.cover(2), 13);
        Check.same("no four", feet.cover(4), -2);
        feet.hold(1, false);
        feet.go(1);
        Check.same("no thing is left to go for", feet.cover(1), -2);
        Check.same("none at all", feet.cover(0), 0);
    }

    private static void trieds() {
        ColdFeet gusts = Check.of("man a 10 12 9;thing t 5 1 99;thing u 7 1 99;heat 0;gust 50;");
        Check.same("as it goes", gusts.tried(0, 0, 9), 1);
        Check.same("no gusts", gusts.tried(1, 0, 9), 2);
        Check.same("he is held", gusts.tried(2, 0, 9), 0);
        Check.same("in 3 steps", gusts.tried(1, 0, 3), 1);
        Check.same("in 2 steps", gusts.tried(0, 0, 2), 1);
        Check.same("in 1 step", gusts.tried(0, 0, 1), 0);
        Check.same("in 0 steps", gusts.tried(1, 0, 0), 0);
        gusts.go(3);
        Check.same("more than now", gusts.tried(0, 0, 9), 0);
        ColdFeet hurts = Check.of("man a 0 9 9;thing t 5 1 99;thing u 5 2 0;risk 60;heat 0;");
        Check.same("hurt", hurts.tried(0, 0, 9), 0);
        Check.same("nobody is hurt", hurts.tried(3, 0, 9), 1);
        ColdFeet burns = Check.of("man a 0 9 9;thing t 5 1 99;thing u 5 2 0;heat 0;");
        Check.same("burns", burns.tried(0, 0, 9), 1);
        Check.same("nothing burns", burns.tried(4, 0, 9), 2);
        ColdFeet looks = Check.of("man a 9 0 9;thing t 5 1 99;look a 1 9;heat 0;");
        Check.same("paid", looks.tried(0, 0, 9), 1);
        Check.same("not paid", looks.tried(5, 0, 9), 0);
        Check.same("tried(6, 0, 1)", looks.tried(6, 0, 1), -1);
        Check.same("tried(-1, 0, 1)", looks.tried(-1, 0, 1), -1);
        Check.same("tried(0, 1, 1)", looks.tried(0, 1, 1), -1);
        Check.same("tried(5, -1, 1)", looks.tried(5, -1, 1), -1);
        Check.same("tried(2, 1, 1)", looks.tried(2, 1, 1), -1);
        Check.same("tried(2, -1, 1)", looks.tried(2, -1, 1), -1);
        Check.same("tried(0, 0, 100)", looks.tried(0, 0, 100), -1);
        Check.same("tried(0, 0, -1)", looks.tried(0, 0, -1), -1);
        Check.same("without men", new ColdFeet().tried(2, 0, 1), -1);
    }

    private static void nothingChanges() {
        ColdFeet feet = Check.of(HOUSE + "seed 5;risk 30;gust 30;");
        feet.pay(0, 1);
        feet.ahead(99, 0);
        feet.goes(0);
        feet.out(1);
        feet.tried(2, 1, 50);
        feet.chance(9, 20, 1);
        feet.order(0);
        feet.rues(0);
        NowTest.counts(feet, 2, 2, 0, 0, 0, 0, 0, 0, 0, 19, 0, 0, 0, 0, 1);
        NowTest.man(feet, 1, 10, 10, 2, 0, 0, -2, 0, 1, 0);
        ColdFeet other = Check.of(HOUSE + "seed 5;risk 30;gust 30;");
        other.pay(0, 1);
        for (int k = 0; k < 20; k++) {
            feet.go(1);
            other.go(1);
            feet.ahead(20, 2);
            Check.same("numbers are not used up", feet.count(8), other.count(8));
        }
    }
}
