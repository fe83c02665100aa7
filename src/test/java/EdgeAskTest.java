/** The bounds that promises 14 to 31 and the paragraph ==== 3 name, a method for each sentence. */
final class EdgeAskTest {
    private static final int[] FAR = {Integer.MIN_VALUE, Integer.MIN_VALUE + 1, -100, -2, 1 << 30, Integer.MAX_VALUE - 1,
        Integer.MAX_VALUE};

    public static void main(String[] args) {
        stepsOfAhead();
        whatsOfAhead();
        aheadIsMore();
        goesInHowMany();
        goesNext();
        noSuchManGoes();
        outInHowMany();
        outOfWhatIs();
        noSuchThingIsOut();
        premiumOfTwoHundred();
        premiumOfTheFirstThing();
        premiumOfWhoIsOutside();
        noSuchManHasPremium();
        coverOfSoMany();
        coverWithoutHeld();
        coverByNone();
        whatsOfMatch();
        matchByDepth();
        matchOfWhatIs();
        firstMatch();
        matchAgain();
        matchOfFewer();
        whatsOfOrder();
        orderOfThirtySteps();
        orderOfFirstFour();
        firstOrder();
        restsOfTwo();
        restIfNoneHasMore();
        waitsAreCut();
        kthRest();
        stepsOfBack();
        leastTerms();
        yearsOfWidow();
        nineTenthsCut();
        nextByDepth();
        nextOfWhom();
        nobodyIsNext();
        stepsOfSeen();
        thingOfSeen();
        twentyFourSeen();
        strikesOneAhead();
        knownByN();
        knownByAll();
        struckByOneOfThese();
        tensOfRue();
        seenFromTheTextOn();
        noSuchManRues();
        seedOfChance();
        stepsOfChance();
        thingsOfChance();
        oneBehindAnother();
        whatsOfTried();
        stepsOfTried();
        triedOtherwise();
        rueOfTried();
        Check.end();
    }

    private static String men(int n) {
        StringBuilder men = new StringBuilder();
        for (int k = 0; k < n; k++) {
            men.append("man ").append((char) ('a' + k)).append(" 50 0 1;");
        }
        return men.toString();
    }

    // ---- promise 14

    private static void stepsOfAhead() {
        Check.about("Promise 14: AHEAD (n 0 .. 99); NONE: no such ones");
        ColdFeet feet = Check.of("man a 0 0 1;thing t 5 1 99;law dare step=97;thing u 5 1 98;");
        int[][] rows = {{-1, -1, -1}, {0, 0, 0}, {1, 0, 1}, {98, 0, 98}, {99, 1, 99}, {100, -1, -1}};
        for (int[] row : rows) {
            Check.same("saved ahead " + row[0], feet.ahead(row[0], 0), row[1]);
            Check.same("heat ahead " + row[0], feet.ahead(row[0], 3), row[2]);
        }
        Check.same("burnt ahead 98", feet.ahead(98, 1), 0);
        Check.same("burnt ahead 99", feet.ahead(99, 1), 1);
        for (int far : FAR) {
            Check.same("ahead(" + far + ", 0)", feet.ahead(far, 0), -1);
        }
    }

    private static void whatsOfAhead() {
        Check.about("Promise 14: what 0 SAVED, 1 BURNT, 2 HURT, 3 HEAT, 4 the CROWD's; NONE: no such ones");
        ColdFeet feet = Check.of("man a 0 0 1;man b 0 0 2;thing t 5 1 99;thing u 5 2 99;thing v 5 1 0;thing w 5 1 1;heat 3;"
            + "law dare step=0;law hurt (skill=2)*100;crowd 10;look a 1 4;");
        int[] want = {1, 2, 1, 9, 11};
        for (int what = -2; what <= 7; what++) {
            Check.same("ahead(3, " + what + ")", feet.ahead(3, what), what >= 0 && what <= 4 ? want[what] : -1);
        }
        for (int far : FAR) {
            Check.same("ahead(3, " + far + ")", feet.ahead(3, far), -1);
        }
    }

    private static void aheadIsMore() {
        Check.about("AHEAD: how many THINGS more are SAVED, BURNT, MEN HURT; HEAT then; what the CROWD has then");
        ColdFeet feet = Check.of("man a 0 0 1;man b 0 0 2;thing t 5 1 99;thing u 5 2 99;thing v 5 1 0;thing w 5 1 1;heat 3;"
            + "law dare step=0;law hurt (skill=2)*100;crowd 10;look a 1 4;");
        feet.go(1);
        int[][] rows = {{0, 0, 0, 3, 10}, {1, 1, 0, 6, 11}, {1, 1, 0, 9, 11}};
        for (int n = 0; n < rows.length; n++) {
            for (int what = 0; what <= 4; what++) {
                Check.same("ahead(" + n + ", " + what + ")", feet.ahead(n, what), rows[n][what]);
            }
        }
        feet.go(3);
        for (int what = 0; what <= 2; what++) {
            Check.same("none more, ahead(95, " + what + ")", feet.ahead(95, what), 0);
        }
        Check.same("u burns at 99", feet.ahead(96, 1), 1);
    }

    // ---- promises 15, 16

    private static void goesInHowMany() {
        Check.about("GOES: in how many STEPS as it goes, 99 at most (1: this one); -2: not by then");
        int[][] rows = {{0, 1}, {1, 2}, {97, 98}, {98, 99}, {99, -2}, {100, -2}};
        for (int[] row : rows) {
            ColdFeet feet = Check.of("man a 0 0 1;thing t 5 1 99;law dare step=" + row[0] + ";");
            Check.same("he dares at " + row[0], feet.goes(0), row[1]);
        }
        ColdFeet late = Check.of("man a 0 0 1;thing t 5 1 99;law dare step=99;");
        late.go(1);
        Check.same("99 from 1 on", late.goes(0), 99);
        late.go(98);
        Check.same("99 from 99 on", late.goes(0), 1);
    }

    private static void goesNext() {
        Check.about("GOES: he next goes IN; -2: not by then");
        ColdFeet feet = Check.of("man a 0 99 1;thing t 5 3 99;thing u 5 1 99;");
        feet.go(1);
        Check.same("who is in goes next", feet.goes(0), 6);
        feet.go(5);
        Check.same("who is out", feet.goes(0), 1);
        feet.hold(0, true);
        Check.same("who is held", feet.goes(0), -2);
        feet.hold(0, false);
        feet.go(2);
        Check.same("no thing is left", feet.goes(0), -2);
        ColdFeet hurt = Check.of("man a 0 99 1;thing t 5 1 99;risk 100;");
        Check.same("he goes, though he is hurt in that step", hurt.goes(0), 1);
        hurt.go(1);
        Check.same("who is hurt", hurt.goes(0), -2);
    }

    private static void noSuchManGoes() {
        Check.about("Promise 15: NONE: no such MAN");
        for (int size : new int[] {0, 1, 6}) {
            ColdFeet feet = Check.of(men(size));
            for (int man = -1; man <= 7; man++) {
                Check.same("goes(" + man + ") of " + size, feet.goes(man), man >= 0 && man < size ? -2 : -1);
            }
            for (int far : FAR) {
                Check.same("goes(" + far + ")", feet.goes(far), -1);
            }
        }
    }

    private static void outInHowMany() {
        Check.about("OUT: in how many STEPS as it goes, 99 at most, it is SAVED; -2: not by then");
        int[][] rows = {{0, 2}, {1, 3}, {96, 98}, {97, 99}, {98, -2}, {99, -2}};
        for (int[] row : rows) {
            ColdFeet feet = Check.of("man a 0 0 1;thing t 5 1 99;law dare step=" + row[0] + ";");
            Check.same("he dares at " + row[0], feet.out(0), row[1]);
        }
        ColdFeet later = Check.of("man a 0 0 1;thing t 5 1 99;law dare step=98;");
        later.go(1);
        Check.same("98 from 1 on", later.out(0), 99);
    }

    private static void outOfWhatIs() {
        Check.about("OUT: (0: it is)");
        ColdFeet feet = Check.of("man a 0 99 1;thing t 5 1 99;thing u 5 1 0;");
        feet.go(1);
        Check.same("taken", feet.out(0), 1);
        Check.same("burnt", feet.out(1), -2);
        feet.go(1);
        Check.same("saved", feet.out(0), 0);
        feet.go(99);
        Check.same("saved long ago", feet.out(0), 0);
        ColdFeet hurt = Check.of("man a 0 99 1;thing t 5 1 99;risk 50;");
        Check.same("who goes for it is hurt", hurt.out(0), -2);
    }

    private static void noSuchThingIsOut() {
        Check.about("Promise 16: NONE: no such THING");
        for (int size : new int[] {0, 1, 8}) {
            StringBuilder text = new StringBuilder();
            for (int k = 0; k < size; k++) {
                text.append("thing ").append((char) ('a' + k)).append(" 1 1 0;");
            }
            ColdFeet feet = Check.of(text.toString());
            for (int thing = -1; thing <= 9; thing++) {
                Check.same("out(" + thing + ") of " + size, feet.out(thing), thing >= 0 && thing < size ? -2 : -1);
            }
            for (int far : FAR) {
                Check.same("out(" + far + ")", feet.out(far), -1);
            }
        }
    }

    // ---- promises 17, 18

    private static void premiumOfTwoHundred() {
        Check.about("PREMIUM: the fewest LOOKS more, 0 .. 200; -2: by none");
        String told = "man a 0 0 1;thing t 1 2 99;law dare ";
        String[] laws = {"1", "looks>=1", "looks=199", "looks=200", "looks>=201", "looks=201", "0", "looks=5 or looks=3"};
        int[] want = {0, 1, 199, 200, -2, -2, -2, 3};
        for (int k = 0; k < laws.length; k++) {
            Check.same("premium by " + laws[k], Check.of(told + laws[k] + ";").premium(0), want[k]);
        }
        ColdFeet paid = Check.of(told + "looks>=205;");
        Check.same("205 by none", paid.premium(0), -2);
        paid.pay(0, 4);
        Check.same("201 more by none", paid.premium(0), -2);
        paid.pay(0, 1);
        Check.same("200 more", paid.premium(0), 200);
        // without a law: FEAR and HEAT, less RUE
        ColdFeet without = Check.of("man a 99 0 1;man b 98 99 1;thing t 1 2 99;thing u 1 2 99;heat 9;");
        without.hold(1, true);
        Check.same("99", without.premium(0), 99);
        Check.same("0", without.premium(1), 0);
        without.go(11);
        Check.same("99 and heat 99", without.premium(0), 198);
        Check.same("98", without.premium(1), 98);
        without.go(1);
        Check.same("207 by none", without.premium(0), -2);
        ColdFeet heat = Check.of("man a 99 0 1;man b 97 0 1;thing t 1 2 99;heat 1;law dare 1/0;");
        heat.go(99);
        heat.pay(0, 1);
        heat.go(4);
        Check.same("no thing is left", heat.premium(0), -2);
        ColdFeet edge = Check.of("man a 99 0 1;man b 98 0 1;man c 97 0 1;thing t 1 2 99;heat 1;");
        edge.wet(0, 20);
        edge.go(99);
        edge.go(3);
        Check.same("201 by none", edge.premium(0), -2);
        Check.same("200", edge.premium(1), 200);
        Check.same("199", edge.premium(2), 199);
    }

    private static void premiumOfTheFirstThing() {
        Check.about("PREMIUM: for the first THING that is LEFT and that nobody goes for; -2: there is no such THING");
        String told = "man a 0 0 1;man b 1 0 1;law dare fear=0 or looks=depth;";
        ColdFeet feet = Check.of(told + "thing t 1 2 99;thing u 1 3 99;thing v 1 4 1;");
        Check.same("t", feet.premium(1), 2);
        feet.go(1);
        Check.same("u", feet.premium(1), 3);
        Check.same("no such thing", Check.of(told).premium(1), -2);
        ColdFeet one = Check.of(told + "thing t 1 2 99;");
        one.go(1);
        Check.same("a goes for it", one.premium(1), -2);
        ColdFeet burnt = Check.of(told + "thing t 1 2 0;thing u 1 5 9;");
        burnt.hold(0, true);
        burnt.go(1);
        Check.same("t is burnt", burnt.premium(1), 5);
    }

    private static void premiumOfWhoIsOutside() {
        Check.about("PREMIUM of a MAN that is OUTSIDE; -2: he isn't OUTSIDE");
        ColdFeet feet = Check.of("man a 0 99 1;thing t 1 1 99;thing u 1 1 99;thing v 1 1 99;");
        Check.same("outside", feet.premium(0), 0);
        feet.hold(0, true);
        Check.same("held", feet.premium(0), 0);
        feet.hold(0, false);
        feet.go(1);
        Check.same("in", feet.premium(0), -2);
        feet.go(1);
        Check.same("outside again", feet.premium(0), 0);
        ColdFeet hurt = Check.of("man a 0 99 1;thing t 1 1 99;risk 100;");
        hurt.go(1);
        Check.same("hurt", hurt.premium(0), -2);
    }

    private static void noSuchManHasPremium() {
        Check.about("Promise 17: NONE: no such MAN");
        for (int size : new int[] {0, 1, 6}) {
            ColdFeet feet = Check.of(men(size) + "thing t 1 1 99;");
            for (int man = -1; man <= 7; man++) {
                Check.same("premium(" + man + ") of " + size, feet.premium(man), man >= 0 && man < size ? 50 : -1);
            }
            for (int far : FAR) {
                Check.same("premium(" + far + ")", feet.premium(far), -1);
            }
        }
    }

    private static void coverOfSoMany() {
        Check.about("Promise 18: COVER (0 .. 6 MEN); NONE: no such number");
        ColdFeet feet = Check.of("man a 40 0 1;man b 10 0 1;man c 60 0 1;man d 0 0 1;man e 99 0 1;man f 20 0 1;thing t 1 1 99;");
        int[] sums = {0, 0, 10, 30, 70, 130, 229};
        for (int men = -2; men <= 9; men++) {
            Check.same("cover(" + men + ")", feet.cover(men), men >= 0 && men <= 6 ? sums[men] : -1);
        }
        for (int far : FAR) {
            Check.same("cover(" + far + ")", feet.cover(far), -1);
        }
        ColdFeet dear = Check.of(men(6) + "thing t 1 1 99;law dare looks=200;");
        Check.same("cover(6)", dear.cover(6), 1200);
    }

    private static void coverWithoutHeld() {
        Check.about("COVER: HELD ones not");
        ColdFeet feet = Check.of("man a 40 0 1;man b 10 0 1;man c 60 0 1;thing t 1 1 99;");
        Check.same("cover(3)", feet.cover(3), 110);
        feet.hold(1, true);
        Check.same("cover(1)", feet.cover(1), 40);
        Check.same("cover(2)", feet.cover(2), 100);
        Check.same("cover(3)", feet.cover(3), -2);
        feet.hold(0, true);
        feet.hold(2, true);
        Check.same("cover(0), all are held", feet.cover(0), 0);
        Check.same("cover(1), all are held", feet.cover(1), -2);
    }

    private static void coverByNone() {
        Check.about("Promise 18: -2: by none");
        ColdFeet none = new ColdFeet();
        Check.same("cover(0) without men", none.cover(0), 0);
        Check.same("cover(1) without men", none.cover(1), -2);
        Check.same("cover(6) without men", none.cover(6), -2);
        ColdFeet noThing = Check.of(men(3));
        Check.same("cover(0) without things", noThing.cover(0), 0);
        Check.same("cover(1) without things", noThing.cover(1), -2);
        ColdFeet some = Check.of("man a 1 0 1;man b 2 0 1;man c 3 0 1;thing t 1 1 99;law dare looks=200 and fear<3;");
        Check.same("two have one", some.cover(2), 400);
        Check.same("not three", some.cover(3), -2);
        ColdFeet out = Check.of("man a 0 0 1;man b 50 0 1;thing t 1 1 99;thing u 1 1 99;");
        out.go(1);
        Check.same("who is in has none", out.cover(2), -2);
        Check.same("who is outside has", out.cover(1), 51);
    }

    // ---- promises 19, 20

    private static void match(ColdFeet feet, int... want) {
        for (int what = 0; what < want.length; what++) {
            Check.same("match(" + what + ")", feet.match(what), want[what]);
        }
    }

    private static void whatsOfMatch() {
        Check.about("Promise 19: what 0 .. 5: the THING (-2: none, not so many), 6: WORTH. NONE for another what");
        match(new ColdFeet(), -2, -2, -2, -2, -2, -2, 0);
        match(Check.of(men(2)), -2, -2, -2, -2, -2, -2, 0);
        match(Check.of("thing t 9 1 9;"), -2, -2, -2, -2, -2, -2, 0);
        match(Check.of(men(6) + "thing t 9 1 9;"), -2, -2, -2, -2, -2, 0, 9);
        StringBuilder all = new StringBuilder(men(6));
        for (char name = 's'; name <= 'z'; name++) {
            all.append("thing ").append(name).append(" 99 1 9;");
        }
        ColdFeet feet = Check.of(all.toString());
        match(feet, 0, 1, 2, 3, 4, 5, 594);
        for (int what : new int[] {-1, 7, 8}) {
            Check.same("match(" + what + ")", feet.match(what), -1);
        }
        for (int far : FAR) {
            Check.same("match(" + far + ")", feet.match(far), -1);
        }
    }

    private static void matchByDepth() {
        Check.about("MATCH: DEPTH no more than SKILL, each THING one MAN at most");
        for (int depth = 1; depth <= 6; depth++) {
            for (int skill = 1; skill <= 9; skill++) {
                ColdFeet feet = Check.of("man a 0 0 " + skill + ";thing t 7 " + depth + " 9;");
                boolean isSo = depth <= skill;
                match(feet, isSo ? 0 : -2, -2, -2, -2, -2, -2, isSo ? 7 : 0);
            }
        }
        match(Check.of("man a 0 0 1;man b 0 0 2;thing t 9 2 9;thing u 8 2 9;thing v 1 1 9;"), 2, 0, -2, -2, -2, -2, 10);
        match(Check.of("man a 0 0 9;man b 0 0 9;thing t 9 2 9;"), -2, 0, -2, -2, -2, -2, 9);
    }

    private static void matchOfWhatIs() {
        Check.about("MATCH: each MAN that isn't HURT has a THING that is LEFT, or none");
        ColdFeet feet = Check.of("man a 0 0 9;man b 0 0 8;thing t 9 2 9;thing u 8 1 9;thing v 7 1 1;"
            + "law dare step=0;law hurt (step=1)*(skill=8)*100;");
        match(feet, 0, 1, -2, -2, -2, -2, 17);
        feet.go(1);
        match(feet, 0, 2, -2, -2, -2, -2, 16);
        feet.hold(1, true);
        match(feet, 0, 2, -2, -2, -2, -2, 16);
        feet.go(1);
        Check.same("b is hurt", feet.man(1, 4), 2);
        match(feet, -2, -2, -2, -2, -2, -2, 0);
    }

    private static void firstMatch() {
        Check.about("MATCH: of several the first by MEN (none is first, then THINGS by numbers)");
        match(Check.of("man a 0 0 9;man b 0 0 9;thing t 5 1 9;thing u 5 1 9;"), 0, 1, -2, -2, -2, -2, 10);
        match(Check.of("man a 0 0 9;thing t 5 1 9;thing u 5 1 9;"), 0, -2, -2, -2, -2, -2, 5);
        match(Check.of("man a 0 0 9;thing t 4 1 9;thing u 5 1 9;thing v 5 1 9;"), 1, -2, -2, -2, -2, -2, 5);
        match(Check.of("man a 0 0 9;man b 0 0 9;man c 0 0 9;thing t 5 1 9;"), -2, -2, 0, -2, -2, -2, 5);
        match(Check.of("man a 0 0 9;man b 0 0 1;man c 0 0 9;thing t 5 2 9;thing u 5 1 9;"), -2, 1, 0, -2, -2, -2, 10);
        match(Check.of("man a 0 0 2;man b 0 0 2;man c 0 0 1;thing t 5 2 9;thing u 5 2 9;thing v 5 1 9;"),
            0, 1, 2, -2, -2, -2, 15);
        match(Check.of("man a 0 0 6;man b 0 0 1;man c 0 0 1;thing t 9 6 9;thing u 3 6 9;thing v 5 1 9;"),
            0, -2, 2, -2, -2, -2, 14);
    }

    /** One object, texts with fewer and fewer men and things: nothing of a match ahead is left. */
    private static void matchAgain() {
        Check.about("MATCH: of the TEXT and the THINGS that are now");
        ColdFeet feet = new ColdFeet();
        for (int men = 6; men >= 0; men--) {
            for (int things = 8; things >= 0; things -= 4) {
                StringBuilder text = new StringBuilder(men(men));
                for (int k = 0; k < things; k++) {
                    text.append("thing ").append((char) ('s' + k)).append(' ').append(90 - k).append(" 1 ").append(k).append(';');
                }
                Check.tell(feet, text.toString());
                for (int gone = 0; gone <= things; gone++) {
                    int worth = 0;
                    for (int k = gone; k < things && k - gone < men; k++) {
                        worth += 90 - k;
                    }
                    Check.same(men + " men, " + things + " things, " + gone + " burnt", feet.match(6), worth);
                    feet.go(1);
                }
            }
        }
    }

    /** Men and things fewer by one or all at once, nothing burnt in between. */
    private static void matchOfFewer() {
        Check.about("MATCH: each THING one MAN at most, WORTH in sum");
        ColdFeet feet = new ColdFeet();
        String[] things = {"thing t 9 1 9;thing u 8 1 9;", "thing u 8 1 9;", "", "thing t 7 2 9;"};
        int[][] worths = {{0, 9, 17}, {0, 8, 8}, {0, 0, 0}, {0, 0, 0}};
        for (int from = 6; from >= 1; from--) {
            for (int to = 0; to <= from; to++) {
                for (int k = 0; k < things.length && to < 3; k++) {
                    Check.tell(feet, men(from) + things[0]);
                    Check.same("of " + from, feet.match(6), worths[0][Math.min(2, from)]);
                    Check.tell(feet, men(to) + things[k]);
                    Check.same("of " + to + ", things " + k, feet.match(6), worths[k][to]);
                }
            }
            feet = new ColdFeet();
        }
    }

    private static void order(ColdFeet feet, int... want) {
        for (int what = 0; what < want.length; what++) {
            Check.same("order(" + what + ")", feet.order(what), want[what]);
        }
    }

    private static void whatsOfOrder() {
        Check.about("Promise 20: what 0 .. 3: the MAN (-2: not so many), 4: WORTH. NONE for another what");
        order(new ColdFeet(), -2, -2, -2, -2, 0);
        order(Check.of(men(1)), 0, -2, -2, -2, 0);
        order(Check.of(men(2)), 0, 1, -2, -2, 0);
        order(Check.of(men(3)), 0, 1, 2, -2, 0);
        order(Check.of(men(4)), 0, 1, 2, 3, 0);
        ColdFeet feet = Check.of(men(6));
        order(feet, 0, 1, 2, 3, 0);
        for (int what : new int[] {-1, 5, 6}) {
            Check.same("order(" + what + ")", feet.order(what), -1);
        }
        for (int far : FAR) {
            Check.same("order(" + far + ")", feet.order(far), -1);
        }
    }

    private static void orderOfThirtySteps() {
        Check.about("ORDER: WORTH of what is SAVED in 30 STEPS as it goes");
        int[][] rows = {{27, 7}, {28, 7}, {29, 0}, {30, 0}};
        for (int[] row : rows) {
            ColdFeet feet = Check.of("man a 0 0 1;thing t 7 1 99;law dare step=" + row[0] + ";");
            Check.same("he dares at " + row[0], feet.order(4), row[1]);
            feet.go(1);
            Check.same("from 1 on, he dares at " + row[0], feet.order(4), row[0] == 30 ? 0 : 7);
        }
        ColdFeet saved = Check.of("man a 0 0 1;thing t 7 1 99;thing u 9 1 99;heat 0;");
        Check.same("both", saved.order(4), 16);
        saved.go(1);
        Check.same("one is taken", saved.order(4), 16);
        saved.go(1);
        Check.same("one was saved ahead", saved.order(4), 9);
        saved.go(2);
        Check.same("both were", saved.order(4), 0);
        ColdFeet odds = Check.of("man a 0 0 1;thing t 7 1 99;risk 50;");
        Check.same("as it goes", odds.order(4), 0);
    }

    private static void orderOfFirstFour() {
        Check.about("ORDER of the RANK's first four: the row of them in these places");
        // only who has the FEAR 1 dares the first thing, and it burns behind the first STEP
        String things = "thing t 1 6 99;thing u 50 1 0;law dare fear=1 and depth=6 or fear=2 and depth=1;";
        String rest = "man c 0 0 9;man d 0 0 9;";
        order(Check.of("man a 2 0 9;man b 1 0 9;" + rest + "man e 0 0 9;man f 0 0 9;" + things), 1, 0, 2, 3, 51);
        ColdFeet fifth = Check.of("man a 2 0 9;" + rest + "man g 0 0 9;man b 1 0 9;man f 0 0 9;" + things);
        order(fifth, 0, 1, 2, 3, 1);
        fifth.swap(4, 3);
        order(fifth, 1, 2, 4, 0, 51);
        Check.same("the rank stays", fifth.man(4, 7), 3);
        ColdFeet last = Check.of("man a 0 0 9;" + rest + "man b 0 0 9;man e 2 0 9;man f 1 0 9;" + things);
        order(last, 0, 1, 2, 3, 1);
        last.swap(4, 5);
        order(last, 0, 1, 2, 3, 51);
    }

    private static void firstOrder() {
        Check.about("ORDER: of several the first by MEN");
        ColdFeet feet = Check.of("man a 0 0 9;man b 0 0 9;man c 0 0 9;man d 0 0 9;man e 0 0 9;thing t 1 1 99;");
        feet.swap(0, 3);
        feet.swap(1, 2);
        order(feet, 0, 1, 2, 3, 1);
        feet.swap(4, 0);
        order(feet, 1, 2, 3, 4, 1);
    }

    // ---- promises 21, 22

    private static void restsOfTwo() {
        Check.about("Promise 21: NONE: no such MEN, alike");
        ColdFeet feet = Check.of(men(3));
        for (int one = -1; one <= 6; one++) {
            for (int other = -1; other <= 6; other++) {
                boolean isSo = one >= 0 && one < 3 && other >= 0 && other < 3 && one != other;
                Check.same("rests(" + one + ", " + other + ")", feet.rests(one, other), isSo ? 1 : -1);
                Check.same("rest(" + one + ", " + other + ", 0)", feet.rest(one, other, 0), isSo ? 11 : -1);
            }
        }
        for (int far : FAR) {
            Check.same("rests(0, " + far + ")", feet.rests(0, far), -1);
            Check.same("rests(" + far + ", 0)", feet.rests(far, 0), -1);
            Check.same("rests(" + far + ", " + far + ")", feet.rests(far, far), -1);
            Check.same("rest(0, " + far + ", 0)", feet.rest(0, far, 0), -1);
            Check.same("rest(" + far + ", 0, 0)", feet.rest(far, 0, 0), -1);
        }
        Check.same("without men", new ColdFeet().rests(0, 1), -1);
    }

    private static void rests(String told, int... want) {
        ColdFeet feet = Check.of("man a " + told.replace(",", " 1;man b ") + " 1;");
        Check.same("rests of " + told, feet.rests(0, 1), want.length);
        for (int k = 0; k < want.length; k++) {
            Check.same("rest " + k + " of " + told, feet.rest(0, 1, k), want[k]);
        }
        Check.same("no more of " + told, feet.rest(0, 1, want.length), -2);
    }

    private static void restIfNoneHasMore() {
        Check.about("A REST: neither would have more otherwise (as much is none more)");
        // who goes alone has RUE less FEAR / 2, or 0 if both wait: 11 rests up to RUE = FEAR / 2
        rests("40 19,0 0", 0, 11);
        rests("40 20,0 0", 0, 1, 11);
        rests("40 21,0 0", 0, 1);
        // both who go have RUE less FEAR / 4, who waits 0 less RUE / 2
        rests("60 10,60 10", 0, 11);
        rests("62 10,62 10", 0, 11);
        rests("64 10,64 10", 11);
        rests("60 10,64 10", 11);
        rests("0 0,0 0", 0, 1, 10, 11);
        rests("99 99,99 99", 0);
        rests("99 0,99 0", 11);
        rests("0 99,99 0", 1);
        rests("99 0,0 99", 10);
    }

    private static void waitsAreCut() {
        Check.about("WAITS: half of FEAR, cut; a quarter of FEAR, cut; half of RUE, cut");
        // alone: FEAR 3 is less by 1, FEAR 4 by 2: RUE 1 is as good as waiting, or worse
        rests("3 1,99 0", 1, 11);
        rests("4 1,99 0", 11);
        rests("2 1,99 0", 1, 11);
        rests("1 0,99 0", 1, 11);
        rests("2 0,99 0", 11);
        // both: FEAR 7 is less by 1, FEAR 8 by 2; RUE 1 less by 1 is 0, and who waits has 0
        rests("7 1,7 1", 0, 11);
        rests("8 1,8 1", 11);
        // both: FEAR 15 is less by 3, FEAR 16 by 4; RUE 2 has -1 or -2, who waits has -1
        rests("15 2,15 2", 0, 11);
        rests("16 2,16 2", 11);
        // half of RUE 3 is 1: 3 less 4 is -1, as good as waiting; 3 less 5 isn't
        rests("19 3,19 3", 0, 11);
        rests("20 3,20 3", 11);
    }

    private static void kthRest() {
        Check.about("Promise 22: The k-th; -2: there are no so many; NONE likewise, k is below 0");
        ColdFeet all = Check.of("man a 0 0 1;man b 0 0 1;");
        int[] want = {0, 1, 10, 11};
        for (int k = -2; k <= 6; k++) {
            Check.same("rest(0, 1, " + k + ")", all.rest(0, 1, k), k < 0 ? -1 : k < 4 ? want[k] : -2);
        }
        Check.same("rest of the highest", all.rest(0, 1, Integer.MAX_VALUE), -2);
        Check.same("rest of the lowest", all.rest(0, 1, Integer.MIN_VALUE), -1);
        Check.same("no such man, k too high", all.rest(0, 2, 9), -1);
        Check.same("alike, k too high", all.rest(1, 1, 9), -1);
        ColdFeet one = Check.of("man a 99 0 1;man b 0 50 1;");
        Check.same("the first one waits", one.rest(0, 1, 0), 10);
        Check.same("the second one waits", one.rest(1, 0, 0), 1);
        Check.same("there is one", one.rest(0, 1, 1), -2);
    }

    // ---- promises 23 to 25

    private static void stepsOfBack() {
        Check.about("Promise 23: BACK (n 0 .. 6), what 0: the number above, 1: the one below. NONE: no such ones");
        ColdFeet feet = Check.of("risk 1;");
        long[] above = {1, 99, 9801, 970299, 96059601, 9509900499L, 941480149401L};
        long below = 1;
        for (int n = 0; n <= 6; n++) {
            Check.same("above " + n, feet.comesBack(n, 0), above[n]);
            Check.same("below " + n, feet.comesBack(n, 1), below);
            below *= 100;
        }
        for (int n : new int[] {-1, 7, 8}) {
            Check.same("comesBack(" + n + ", 0)", feet.comesBack(n, 0), -1);
            Check.same("comesBack(" + n + ", 1)", feet.comesBack(n, 1), -1);
        }
        for (int what : new int[] {-1, 2}) {
            Check.same("comesBack(0, " + what + ")", feet.comesBack(0, what), -1);
            Check.same("comesBack(6, " + what + ")", feet.comesBack(6, what), -1);
        }
        for (int far : FAR) {
            Check.same("comesBack(" + far + ", 0)", feet.comesBack(far, 0), -1);
            Check.same("comesBack(0, " + far + ")", feet.comesBack(0, far), -1);
        }
    }

    private static void leastTerms() {
        Check.about("Promise 23: BACK in least terms");
        int[][] rows = {{0, 1, 1}, {1, 99, 100}, {2, 49, 50}, {4, 24, 25}, {5, 19, 20}, {10, 9, 10}, {20, 4, 5}, {25, 3, 4},
            {50, 1, 2}, {75, 1, 4}, {80, 1, 5}, {96, 1, 25}, {98, 1, 50}, {99, 1, 100}, {100, 0, 1}, {37, 63, 100}};
        for (int[] row : rows) {
            ColdFeet feet = Check.of("risk " + row[0] + ";law hurt 50;");
            long above = 1;
            long below = 1;
            for (int n = 0; n <= 6; n++) {
                Check.same("risk " + row[0] + " above " + n, feet.comesBack(n, 0), above);
                Check.same("risk " + row[0] + " below " + n, feet.comesBack(n, 1), below);
                above *= row[1];
                below *= row[2];
            }
        }
    }

    private static void yearsOfWidow() {
        Check.about("Promise 24: WIDOW (n 0 .. 99); NONE: no such ones");
        ColdFeet feet = Check.of("man a 0 10 1;man b 0 99 1;");
        int[][] rows = {{-1, -1}, {0, 0}, {1, 10}, {2, 19}, {98, 55}, {99, 55}, {100, -1}};
        for (int[] row : rows) {
            Check.same("widow(0, " + row[0] + ")", feet.widow(0, row[0]), row[1]);
        }
        for (int man : new int[] {-1, 2, 6}) {
            Check.same("widow(" + man + ", 1)", feet.widow(man, 1), -1);
        }
        for (int far : FAR) {
            Check.same("widow(0, " + far + ")", feet.widow(0, far), -1);
            Check.same("widow(" + far + ", 1)", feet.widow(far, 1), -1);
        }
    }

    private static void nineTenthsCut() {
        Check.about("WIDOW: RUE in the first one, in each other one nine tenths of the one ahead, cut");
        for (int rue = 0; rue <= 99; rue++) {
            ColdFeet feet = Check.of("man a 0 " + rue + " 1;");
            int sum = 0;
            int year = rue;
            for (int n = 1; n <= 99; n += n < 30 ? 1 : 23) {
                sum = 0;
                year = rue;
                for (int k = 0; k < n; k++) {
                    sum += year;
                    // what is lost is a tenth, a part of one counts as one
                    year -= (year + 9) / 10;
                }
                Check.same("widow(0, " + n + ") by " + rue, feet.widow(0, n), sum);
            }
        }
        Check.same("of one", Check.of("man a 0 1 1;").widow(0, 99), 1);
        Check.same("of none", Check.of("man a 0 0 1;").widow(0, 99), 0);
    }

    private static void nextByDepth() {
        Check.about("NEXT: most SKILL of those with DEPTH no more than SKILL");
        for (int depth = 1; depth <= 6; depth++) {
            for (int skill = 1; skill <= 9; skill++) {
                ColdFeet feet = Check.of("man a 0 0 " + skill + ";thing t 1 " + depth + " 9;");
                Check.same("skill " + skill + " depth " + depth, feet.next(0), depth <= skill ? 0 : -2);
            }
        }
        ColdFeet feet = Check.of("man a 0 0 3;man b 0 0 5;man c 0 0 4;thing t 1 1 9;");
        Check.same("the most", feet.next(0), 1);
    }

    private static void nextOfWhom() {
        Check.about("NEXT: the MAN that is OUTSIDE, isn't HELD, of several the first by the RANK");
        ColdFeet feet = Check.of("man a 0 0 5;man b 50 0 5;man c 50 0 5;thing t 1 1 9;thing u 1 1 9;");
        Check.same("a", feet.next(0), 0);
        feet.swap(0, 2);
        Check.same("c is first", feet.next(0), 2);
        feet.hold(2, true);
        Check.same("c is held", feet.next(0), 1);
        feet.hold(1, true);
        Check.same("b, too", feet.next(0), 0);
        feet.go(1);
        Check.same("a is in", feet.next(0), -2);
        feet.go(1);
        Check.same("a is outside", feet.next(0), 0);
        ColdFeet hurt = Check.of("man a 0 0 5;thing t 1 1 9;risk 100;");
        hurt.go(1);
        Check.same("a is hurt", hurt.next(0), -2);
    }

    private static void nobodyIsNext() {
        Check.about("Promise 25: -2: nobody; NONE: no such THING");
        ColdFeet feet = Check.of("thing t 1 1 9;thing u 1 1 9;");
        for (int thing = -1; thing <= 8; thing++) {
            Check.same("next(" + thing + ")", feet.next(thing), thing == 0 || thing == 1 ? -2 : -1);
        }
        for (int far : FAR) {
            Check.same("next(" + far + ")", feet.next(far), -1);
        }
        Check.same("without things", Check.of(men(1)).next(0), -1);
    }

    // ---- promises 26 to 29

    private static void stepsOfSeen() {
        Check.about("SEEN: behind so many STEPS 1 .. 60");
        int[][] rows = {{-1, -1}, {0, -1}, {1, 0}, {2, 1}, {59, 2}, {60, 3}, {61, -1}, {62, -1}, {256, -1}};
        ColdFeet feet = Check.of("man a 0 0 1;thing t 1 1 9;");
        for (int[] row : rows) {
            Check.same("see(" + row[0] + ", 0)", feet.see(row[0], 0, true), row[1]);
        }
        for (int far : FAR) {
            Check.same("see(" + far + ", 0)", feet.see(far, 0, false), -1);
        }
        Check.same("how many", feet.count(12), 4);
        // he is out behind the STEP that he dares at and one more
        for (int dares : new int[] {0, 1, 57, 58}) {
            ColdFeet one = Check.of("man a 0 0 1;thing t 1 1 99;law dare rue>=50 and step=" + dares + ";");
            one.see(dares + 1, 0, false);
            Check.same("not a step ahead", one.rues(0), 1023);
            one.see(dares + 2, 0, true);
            Check.same("behind " + (dares + 2), one.rues(0), 0b1111100000);
        }
    }

    private static void thingOfSeen() {
        Check.about("Promise 26: its number; NONE: no such ones");
        ColdFeet feet = Check.of("thing t 1 1 9;thing u 1 1 9;");
        for (int thing = -1; thing <= 8; thing++) {
            Check.same("see(1, " + thing + ")", feet.see(1, thing, true), thing == 0 || thing == 1 ? thing : -1);
        }
        for (int far : FAR) {
            Check.same("see(1, " + far + ")", feet.see(1, far, true), -1);
        }
        Check.same("how many", feet.count(12), 2);
        Check.same("without things", new ColdFeet().see(1, 0, true), -1);
    }

    private static void twentyFourSeen() {
        Check.about("SEEN, at most 24, numbered from 0 on; NONE: there are 24");
        for (int strikes = 0; strikes <= 23; strikes += 23) {
            ColdFeet feet = Check.of("man a 0 0 1;thing t 1 1 9;");
            for (int k = 0; k < 24; k++) {
                Check.same("number", k > 23 - strikes ? feet.strike(0) : feet.see(1, 0, true), k);
                Check.same("how many", feet.count(12), k + 1);
            }
            Check.same("see", feet.see(1, 0, true), -1);
            Check.same("strike", feet.strike(0), -1);
            Check.same("strike the last", feet.strike(23), -1);
            Check.same("how many", feet.count(12), 24);
            Check.same("known by", feet.count(13), 24);
            Check.same("known(25)", feet.known(25), false);
            Check.same("known(24)", feet.known(24), true);
            Check.same("rues", feet.rues(0), strikes == 0 ? 0 : 1023);
        }
    }

    private static void strikesOneAhead() {
        Check.about("Promise 27: One that strikes one SEEN: its number; NONE: no such one");
        ColdFeet feet = Check.of("man a 0 0 1;thing t 1 1 9;");
        Check.same("strike(0) of none", feet.strike(0), -1);
        Check.same("strike(-1) of none", feet.strike(-1), -1);
        feet.see(1, 0, true);
        Check.same("strike(1), itself", feet.strike(1), -1);
        Check.same("strike(0)", feet.strike(0), 1);
        Check.same("strike(1)", feet.strike(1), 2);
        Check.same("strike(3), itself", feet.strike(3), -1);
        Check.same("strike(4)", feet.strike(4), -1);
        Check.same("strike(-1)", feet.strike(-1), -1);
        for (int far : FAR) {
            Check.same("strike(" + far + ")", feet.strike(far), -1);
        }
        Check.same("how many", feet.count(12), 3);
        Check.same("strike(2)", feet.strike(2), 3);
        feet.known(0);
        Check.same("what isn't known may be struck", feet.strike(3), 4);
    }

    private static void knownByN() {
        Check.about("Promise 28: KNOWN by n from now on: true; false: no such n");
        ColdFeet feet = Check.of("man a 0 0 1;thing t 1 1 9;");
        for (int seen = 0; seen <= 3; seen++) {
            for (int n = -3; n <= 5; n++) {
                boolean isSo = n >= -1 && n <= seen;
                Check.same("known(" + n + ") of " + seen, feet.known(n), isSo);
            }
            for (int far : FAR) {
                Check.same("known(" + far + ")", feet.known(far), false);
            }
            Check.same("it stays with what isn't so", feet.count(13), seen);
            feet.see(1, 0, true);
            Check.same("those to come aren't known", feet.count(13), seen);
        }
        Check.same("known(0)", feet.known(0), true);
        Check.same("known by none", feet.rues(0), 1023);
        Check.same("known(5) of four", feet.known(5), false);
        Check.same("still by none", feet.rues(0), 1023);
        Check.same("known(1)", feet.known(1), true);
        Check.same("by one", feet.rues(0), 0);
    }

    private static void knownByAll() {
        Check.about("Promise 28: (-1: by all, also those to come); KNOWN by n (all at first)");
        ColdFeet feet = Check.of("man a 0 0 1;thing t 1 1 9;");
        Check.same("none at first", feet.count(13), 0);
        feet.see(1, 0, false);
        Check.same("all at first", feet.count(13), 1);
        feet.known(0);
        feet.see(1, 0, true);
        Check.same("by none", feet.count(13), 0);
        Check.same("known(-1)", feet.known(-1), true);
        Check.same("by both", feet.count(13), 2);
        Check.same("they can't be so", feet.rues(0), 0);
        feet.strike(1);
        Check.same("also those to come", feet.count(13), 3);
        Check.same("they may be so", feet.rues(0), 1023);
    }

    private static void struckByOneOfThese() {
        Check.about("KNOWN by n: the first n that aren't STRUCK by one of these (what strikes may be STRUCK: then it doesn't"
            + " count)");
        ColdFeet feet = Check.of("man a 0 0 1;thing t 1 1 9;");
        feet.see(1, 0, true);
        // 0 is seen (and can't be so), each other one strikes the one ahead of it
        for (int k = 0; k < 23; k++) {
            feet.strike(k);
        }
        for (int n = 0; n <= 24; n++) {
            feet.known(n);
            boolean isStruck = n == 0 || n % 2 == 0;
            Check.same("rues by " + n, feet.rues(0), isStruck ? 1023 : 0);
        }
        ColdFeet twice = Check.of("man a 0 0 1;thing t 1 1 9;");
        twice.see(1, 0, true);
        twice.strike(0);
        twice.strike(0);
        twice.strike(1);
        Check.same("one of two strikes still", twice.rues(0), 1023);
        twice.strike(2);
        Check.same("none does", twice.rues(0), 0);
        twice.known(4);
        Check.same("the last one isn't known", twice.rues(0), 1023);
    }

    private static void tensOfRue() {
        Check.about("RUES of a MAN: 0, 10, .. 90 (bits 0 .. 9)");
        for (int k = 0; k <= 10; k++) {
            ColdFeet feet = Check.of("man a 0 55 1;thing t 1 1 9;law dare rue=" + 10 * k + ";");
            feet.see(2, 0, true);
            Check.same("rue " + 10 * k, feet.rues(0), k < 10 ? 1 << k : 0);
            feet.strike(0);
            feet.see(2, 0, false);
            Check.same("not " + 10 * k, feet.rues(0), k < 10 ? 1023 - (1 << k) : 1023);
        }
        ColdFeet told = Check.of("man a 0 55 1;thing t 1 1 9;law dare rue=55;");
        told.see(2, 0, true);
        Check.same("what was told is none of these", told.rues(0), 0);
        Check.same("nothing is seen", Check.of(men(1)).rues(0), 1023);
    }

    private static void seenFromTheTextOn() {
        Check.about("SEEN: as it goes from the TEXT on, nothing done by call");
        ColdFeet feet = Check.of("man a 50 0 1;man b 0 0 1;thing t 1 2 4;thing u 1 1 1;look a 1 20;risk 49;gust 49;heat 0;"
            + "law dare rue+looks>=fear and fear>0;");
        feet.see(5, 0, true);
        int want = 0b1111111000;
        Check.same("by rue 30 and the look", feet.rues(0), want);
        feet.go(9);
        Check.same("steps don't matter", feet.rues(0), want);
        feet.pay(0, 50);
        feet.swap(0, 1);
        feet.hold(0, true);
        feet.keep();
        Check.same("nor do calls", feet.rues(0), want);
        Check.same("b's doesn't matter, a's as told", feet.rues(1), 0);
        Check.same("a's rue as it was", feet.man(0, 1), 0);
        ColdFeet wet = Check.of("man a 0 0 1;thing t 1 2 0;");
        wet.wet(0, 20);
        wet.see(60, 0, true);
        Check.same("nor does wetting", wet.rues(0), 0);
        ColdFeet odds = Check.of("man a 0 0 1;thing t 1 1 9;risk 50;");
        odds.see(60, 0, false);
        Check.same("hurt as it goes", odds.rues(0), 1023);
    }

    private static void noSuchManRues() {
        Check.about("Promise 29: NONE: no such MAN");
        for (int size : new int[] {0, 1, 6}) {
            ColdFeet feet = Check.of(men(size));
            for (int man = -1; man <= 7; man++) {
                Check.same("rues(" + man + ") of " + size, feet.rues(man), man >= 0 && man < size ? 1023 : -1);
            }
            for (int far : FAR) {
                Check.same("rues(" + far + ")", feet.rues(far), -1);
            }
        }
    }

    // ---- promises 30, 31

    /** By the numbers from a seed on, two of each time: in how many of ten times none is below the risk. */
    private static int safeTimes(long seed, int risk) {
        Numbers numbers = new Numbers(seed);
        int times = 0;
        for (int k = 0; k < 10; k++) {
            boolean isHurt = numbers.next() < risk;
            if (!isHurt) {
                isHurt = numbers.next() < risk;
            }
            times += isHurt ? 0 : 1;
        }
        return times;
    }

    private static void seedOfChance() {
        Check.about("Promise 30: a seed 0 .. 2147483647; NONE: no such ones");
        for (int risk : new int[] {10, 30, 50}) {
            ColdFeet feet = Check.of("man a 0 0 1;thing t 1 1 99;seed 3;law dare step=0;risk " + risk + ";");
            for (int seed : new int[] {0, 1, 2, 1 << 30, 2147483646, 2147483647}) {
                Check.same("seed " + seed, feet.chance(seed, 2, 1), safeTimes(seed, risk));
            }
            for (int seed : new int[] {-1, -2, Integer.MIN_VALUE + 1, Integer.MIN_VALUE}) {
                Check.same("seed " + seed, feet.chance(seed, 2, 1), -1);
            }
        }
    }

    private static void stepsOfChance() {
        Check.about("Promise 30: n 1 .. 99 STEPS from now");
        ColdFeet feet = Check.of("man a 0 0 1;thing t 1 1 99;law dare step=97;");
        int[][] rows = {{-1, -1}, {0, -1}, {1, 0}, {2, 0}, {98, 0}, {99, 10}, {100, -1}};
        for (int[] row : rows) {
            Check.same("chance(1, " + row[0] + ", 1)", feet.chance(1, row[0], 1), row[1]);
        }
        for (int far : FAR) {
            Check.same("chance(1, " + far + ", 1)", feet.chance(1, far, 1), -1);
        }
        feet.go(97);
        Check.same("one step from now", feet.chance(1, 1, 1), 0);
        Check.same("two steps from now", feet.chance(1, 2, 1), 10);
    }

    private static void thingsOfChance() {
        Check.about("Promise 30: so many THINGS 0 .. 8 at least are SAVED then");
        StringBuilder text = new StringBuilder("man a 0 0 1;heat 0;");
        for (char name = 's'; name <= 'z'; name++) {
            text.append("thing ").append(name).append(" 1 1 99;");
        }
        ColdFeet feet = Check.of(text.toString());
        for (int things = -2; things <= 10; things++) {
            boolean isSo = things >= 0 && things <= 8;
            Check.same("chance(1, 16, " + things + ")", feet.chance(1, 16, things), isSo ? 10 : -1);
            Check.same("chance(1, 15, " + things + ")", feet.chance(1, 15, things), isSo ? things == 8 ? 0 : 10 : -1);
        }
        for (int far : FAR) {
            Check.same("chance(1, 16, " + far + ")", feet.chance(1, 16, far), -1);
        }
        ColdFeet few = Check.of("thing t 1 1 99;");
        Check.same("0 are always", few.chance(1, 1, 0), 10);
        Check.same("more than there are", few.chance(1, 99, 8), 0);
        Check.same("without things", new ColdFeet().chance(0, 1, 8), 0);
    }

    private static void oneBehindAnother() {
        Check.about("Promise 30: ten times drawn (numbers from a seed on, one behind another)");
        ColdFeet feet = Check.of("man a 0 0 1;thing t 1 1 99;law dare step=0;risk 40;gust 30;seed 9;");
        for (int seed = 0; seed < 60; seed++) {
            Numbers numbers = new Numbers(seed);
            int times = 0;
            for (int k = 0; k < 10; k++) {
                // the hurt's, then the gust's, in each STEP; who is hurt has none more
                boolean isHurt = numbers.next() < 40;
                numbers.next();
                if (!isHurt) {
                    isHurt = numbers.next() < 40;
                }
                numbers.next();
                times += isHurt ? 0 : 1;
            }
            Check.same("from " + seed, feet.chance(seed, 2, 1), times);
        }
    }

    private static void whatsOfTried() {
        Check.about("Promise 31: NONE: no such ones (i 0 of all but 2)");
        ColdFeet feet = Check.of("man a 0 99 1;man b 50 0 1;thing t 1 1 99;");
        for (int what = -1; what <= 7; what++) {
            for (int i = -1; i <= 6; i++) {
                boolean isSo = what == 2 ? i == 0 || i == 1 : what >= 0 && what <= 5 && i == 0;
                int saved = what == 2 && i == 0 ? 0 : 1;
                Check.same("tried(" + what + ", " + i + ", 2)", feet.tried(what, i, 2), isSo ? saved : -1);
            }
        }
        for (int far : FAR) {
            Check.same("tried(" + far + ", 0, 2)", feet.tried(far, 0, 2), -1);
            Check.same("tried(2, " + far + ", 2)", feet.tried(2, far, 2), -1);
            Check.same("tried(0, " + far + ", 2)", feet.tried(0, far, 2), -1);
        }
        Check.same("without men", new ColdFeet().tried(2, 0, 1), -1);
        Check.same("without men, not of one", new ColdFeet().tried(3, 0, 1), 0);
    }

    private static void stepsOfTried() {
        Check.about("Promise 31: TRIED (n 0 .. 99)");
        ColdFeet feet = Check.of("man a 0 0 1;man b 50 0 1;thing t 1 1 99;law dare fear=0 and step=97;");
        int[][] rows = {{-1, -1}, {0, 0}, {1, 0}, {98, 0}, {99, 1}, {100, -1}};
        for (int what = 0; what <= 5; what++) {
            for (int[] row : rows) {
                int i = what == 2 ? 1 : 0;
                Check.same("tried(" + what + ", " + i + ", " + row[0] + ")", feet.tried(what, i, row[0]), row[1]);
            }
            for (int far : FAR) {
                Check.same("tried(" + what + ", 0, " + far + ")", feet.tried(what, 0, far), -1);
            }
        }
    }

    private static void triedOtherwise() {
        Check.about("TRIED: how many THINGS more are SAVED: 0 as it goes, 1 no gusts, 2 MAN i is HELD, 3 nobody is HURT,"
            + " 4 nothing burns by what it LASTS, 5 no LOOKS are paid");
        String told = "man a 0 20 9;thing t 1 1 99;thing u 1 1 99;heat 0;";
        int[][] odds = {{49, 2}, {50, 1}, {100, 1}};
        for (int[] row : odds) {
            ColdFeet gusts = Check.of(told + "law dare hot<10;gust " + row[0] + ";");
            Check.same("gust " + row[0], gusts.tried(0, 0, 9), row[1]);
            Check.same("no gusts", gusts.tried(1, 0, 9), 2);
            ColdFeet hurts = Check.of(told + "law hurt (step>=2)*" + row[0] + ";");
            Check.same("hurt " + row[0], hurts.tried(0, 0, 9), row[1]);
            Check.same("nobody is hurt", hurts.tried(3, 0, 9), 2);
        }
        ColdFeet burns = Check.of("man a 0 20 9;thing t 1 1 99;thing u 1 2 2;heat 0;");
        Check.same("u burns", burns.tried(0, 0, 9), 1);
        Check.same("nothing burns", burns.tried(4, 0, 9), 2);
        ColdFeet looks = Check.of("man a 20 0 9;thing t 1 1 99;heat 0;look a 0 15;look a 1 5;");
        Check.same("20 looks", looks.tried(0, 0, 9), 1);
        Check.same("none", looks.tried(5, 0, 9), 0);
        looks.go(1);
        Check.same("15 by now, 5 more", looks.tried(0, 0, 9), 1);
        Check.same("15 by now, none more", looks.tried(5, 0, 9), 0);
        looks.go(1);
        Check.same("20 by now", looks.tried(5, 0, 9), 1);
        ColdFeet held = Check.of(told);
        Check.same("held from now on", held.tried(2, 0, 9), 0);
        held.go(1);
        Check.same("held, he comes out", held.tried(2, 0, 9), 1);
        Check.same("not held", held.tried(0, 0, 9), 2);
        held.go(1);
        Check.same("one more", held.tried(0, 0, 9), 1);
        Check.same("he isn't held now", held.man(0, 8), 0);
    }

    private static void rueOfTried() {
        Check.about("TRIED: 3 nobody is HURT (else it goes as it goes: RUE is more by E of after)");
        // t makes a dare u, u makes b dare v: each by the DEPTH of his own thing, and by his own RUE
        String told = "man a 0 10 9;man b 50 10 9;thing t 1 3 99;thing u 1 1 99;thing v 1 2 99;heat 0;"
            + "law dare depth=3 and fear=0 or depth=1 and rue=13 or depth=2 and rue=14 and fear=0;law after depth;";
        for (String hurt : new String[] {"", "law hurt fear*2;", "law hurt (depth=1)*100;"}) {
            ColdFeet feet = Check.of(told + hurt);
            Check.same("nobody is hurt " + hurt, feet.tried(3, 0, 20), 3);
            Check.same("t " + hurt, feet.tried(3, 0, 6), 1);
            Check.same("u " + hurt, feet.tried(3, 0, 8), 2);
            Check.same("v " + hurt, feet.tried(3, 0, 12), 3);
            Check.same("not yet v " + hurt, feet.tried(3, 0, 11), 2);
            Check.same("as it goes " + hurt, feet.tried(0, 0, 20), hurt.contains("100") ? 1 : 3);
        }
        // both come out in the same STEP: each has E of his own
        ColdFeet two = Check.of("man a 0 10 9;man b 1 30 9;thing t 1 1 99;thing u 1 1 99;thing v 1 4 99;thing w 1 5 99;heat 0;"
            + "law dare step=0 or fear=0 and depth=4 and rue=11 or fear=1 and depth=5 and rue=33;law after rue/10;");
        Check.same("two", two.tried(3, 0, 2), 2);
        Check.same("a's", two.tried(3, 0, 10), 3);
        Check.same("b's", two.tried(3, 0, 12), 4);
    }
}
