/** The bounds that the paragraph ==== 2 names, how a STEP goes and what E is, a method for each sentence. */
final class EdgeStepTest {
    private static final int OUTSIDE = 0;
    private static final int IN = 1;
    private static final int HURT = 2;
    private static final int LEFT = 0;
    private static final int TAKEN = 1;
    private static final int SAVED = 2;
    private static final int BURNT = 3;

    public static void main(String[] args) {
        atFirst();
        looksOfThisStep();
        crowdHasSoMany();
        looksByTheirNumbers();
        daresWithout();
        daresByLaw();
        daresWithAnError();
        whoGoes();
        forWhat();
        byTheRank();
        numberBelowHurt();
        hurtOfNoughtToHundred();
        riskWithoutAndWithAnError();
        noNumberOfNoughtOrHundred();
        hurtAndWhatHeHad();
        insideForDepth();
        takenIfLeft();
        crowdHasWorthMore();
        rueIsMore();
        rueWithoutAndWithAnError();
        burntAtLasts();
        heatAtMost();
        gustOfNoughtAndHundred();
        depthOfNone();
        whatIsNotNought();
        bothSidesAreWorkedOut();
        cutTowardsNought();
        errorByNought();
        errorAboveTenToTheTwelve();
        numbersWithin31Bits();
        oddsOfFifty();
        Check.end();
    }

    private static void state(ColdFeet feet, int man, int thing, String what) {
        Check.same(what + ": man 0 at step " + feet.count(3), feet.man(0, 4), man);
        Check.same(what + ": thing 0 at step " + feet.count(3), feet.thing(0, 3), thing);
    }

    private static void atFirst() {
        Check.about("MEN stand in a RANK (at first by numbers), OUTSIDE (0); A THING is LEFT (0); HEAT is 0 at first");
        ColdFeet feet = Check.of("man f 0 9 1;man e 0 9 1;man d 0 9 1;man c 0 9 1;man b 0 9 1;man a 0 9 1;"
            + "thing s 1 1 0;thing t 1 1 0;thing u 1 1 0;thing v 1 1 0;thing w 1 1 0;thing x 1 1 0;thing y 1 1 0;thing z 1 1 0;");
        for (int man = 0; man < 6; man++) {
            Check.same("place", feet.man(man, 7), man);
            Check.same("outside", feet.man(man, 4), OUTSIDE);
        }
        for (int thing = 0; thing < 8; thing++) {
            Check.same("left", feet.thing(thing, 3), LEFT);
        }
        Check.same("heat", feet.count(8), 0);
    }

    // ---- (1)

    private static void looksOfThisStep() {
        Check.about("(1) looks of this STEP");
        ColdFeet feet = Check.of("man a 99 0 1;look a 0 1;look a 1 2;look a 99 4;");
        int[] steps = {0, 1, 1, 97, 1, 1};
        int[] looks = {0, 1, 3, 3, 7, 7};
        for (int k = 0; k < steps.length; k++) {
            feet.go(steps[k]);
            Check.same("looks ahead of step " + feet.count(3), feet.man(0, 3), looks[k]);
        }
    }

    private static void crowdHasSoMany() {
        Check.about("(1) if the CROWD has so many, it has less, the MAN's LOOKS are more; else they are REFUSED");
        int[][] rows = {{7, 7, 7, 0, 0}, {6, 7, 0, 6, 1}, {8, 7, 7, 1, 0}, {0, 1, 0, 0, 1}, {1, 1, 1, 0, 0}, {99, 99, 99, 0, 0},
            {98, 99, 0, 98, 1}};
        for (int[] row : rows) {
            ColdFeet feet = Check.of("man a 99 0 1;crowd " + row[0] + ";look a 0 " + row[1] + ";");
            feet.go(1);
            Check.same("looks", feet.man(0, 3), row[2]);
            Check.same("the crowd's", feet.count(9), row[3]);
            Check.same("refused", feet.count(11), row[4]);
            feet.go(5);
            Check.same("refused once", feet.count(11), row[4]);
        }
    }

    private static void looksByTheirNumbers() {
        Check.about("(1) looks of this STEP, by their numbers");
        ColdFeet feet = Check.of("man a 99 0 1;man b 99 0 1;crowd 10;look b 1 1;look b 0 6;look a 0 5;look a 0 4;look b 0 1;");
        feet.go(1);
        Check.same("a has 4", feet.man(0, 3), 4);
        Check.same("b has 6", feet.man(1, 3), 6);
        Check.same("5 and 1 are refused", feet.count(11), 2);
        feet.go(1);
        Check.same("and 1 more", feet.count(11), 3);
    }

    // ---- (2)

    private static void daresWithout() {
        Check.about("(2) RUE and LOOKS are FEAR and HEAT at least, without");
        int[][] rows = {{10, 10, 0, 0, 1}, {10, 9, 0, 0, 0}, {10, 9, 1, 0, 1}, {10, 8, 1, 0, 0}, {10, 10, 0, 1, 0},
            {10, 11, 0, 1, 1}, {10, 10, 1, 1, 1}, {0, 0, 0, 0, 1}, {0, 0, 0, 1, 0}, {99, 0, 98, 0, 0}, {99, 0, 99, 0, 1},
            {99, 99, 0, 0, 1}};
        for (String law : new String[] {"", "law dare 1/0;", "law after 0;law hurt 0;"}) {
            for (int[] row : rows) {
                ColdFeet feet = Check.of("man a " + row[0] + " " + row[1] + " 1;thing t 1 1 99;" + law);
                feet.hold(0, true);
                feet.go(row[3]);
                feet.hold(0, false);
                if (row[2] > 0) {
                    feet.pay(0, row[2]);
                }
                feet.go(1);
                Check.same("fear " + row[0] + " rue " + row[1] + " looks " + row[2] + " heat " + row[3] + " " + law,
                    feet.man(0, 4), row[4]);
            }
        }
    }

    private static void daresByLaw() {
        Check.about("(2) if E of dare isn't 0");
        String[] laws = {"0", "1", "0-1", "2", "1-1", "0-1000*1000*1000*1000", "1000*1000*1000*1000", "1/2"};
        int[] dares = {0, 1, 1, 1, 0, 1, 1, 0};
        for (int k = 0; k < laws.length; k++) {
            ColdFeet feet = Check.of("man a 0 99 1;man b 99 0 1;thing t 1 1 99;thing u 1 1 99;law dare " + laws[k] + ";");
            feet.go(1);
            Check.same("a by " + laws[k], feet.man(0, 4), dares[k]);
            Check.same("b by " + laws[k], feet.man(1, 4), dares[k]);
        }
    }

    private static void daresWithAnError() {
        Check.about("(2) RUE and LOOKS are FEAR and HEAT at least, with an ERROR");
        String[] laws = {"1/0", "1000*1000*1000*1000+1", "0-1000*1000*1000*1000-1", "0*(1/0)", "1 or 1/0", "0 and 1/0"};
        for (String law : laws) {
            ColdFeet feet = Check.of("man a 9 9 1;man b 9 8 1;thing t 1 1 99;thing u 1 1 99;law dare " + law + ";");
            feet.go(1);
            Check.same("a by " + law, feet.man(0, 4), 1);
            Check.same("b by " + law, feet.man(1, 4), 0);
        }
    }

    private static void whoGoes() {
        Check.about("(2) each MAN that is OUTSIDE, isn't HELD");
        String told = "man a 0 99 1;thing t 1 1 99;thing u 1 1 99;thing v 1 1 99;";
        ColdFeet feet = Check.of(told);
        feet.hold(0, true);
        feet.go(1);
        state(feet, OUTSIDE, LEFT, "held");
        feet.hold(0, false);
        feet.go(1);
        state(feet, IN, TAKEN, "no more held");
        feet.hold(0, true);
        feet.go(1);
        state(feet, OUTSIDE, SAVED, "held while in");
        feet.go(1);
        Check.same("he doesn't go again", feet.man(0, 4), OUTSIDE);
        ColdFeet twice = Check.of(told);
        twice.go(2);
        state(twice, OUTSIDE, SAVED, "out again");
        twice.go(1);
        Check.same("he goes in the next step", twice.man(0, 5), 1);
        ColdFeet hurt = Check.of(told + "law hurt (step=0)*100;");
        hurt.go(9);
        state(hurt, HURT, LEFT, "hurt for good");
    }

    private static void forWhat() {
        Check.about("(2) for whom there is a THING that is LEFT and that nobody who is IN goes for, the first by numbers");
        ColdFeet none = Check.of("man a 0 99 1;");
        none.go(1);
        Check.same("there is none", none.man(0, 4), OUTSIDE);
        ColdFeet one = Check.of("man a 0 99 1;man b 0 99 1;thing t 1 2 99;");
        one.go(1);
        Check.same("a goes", one.man(0, 5), 0);
        Check.same("none is left for b", one.man(1, 4), OUTSIDE);
        ColdFeet hurt = Check.of("man a 0 99 1;man b 1 99 1;thing t 1 2 99;law hurt (fear=0)*100;");
        hurt.go(1);
        Check.same("a is hurt", hurt.man(0, 4), HURT);
        Check.same("b waits", hurt.man(1, 4), OUTSIDE);
        hurt.go(1);
        Check.same("then b goes for the same", hurt.man(1, 5), 0);
        ColdFeet burnt = Check.of("man a 0 99 1;thing t 1 2 0;thing u 1 2 1;thing v 1 2 99;");
        burnt.hold(0, true);
        burnt.go(2);
        burnt.hold(0, false);
        burnt.go(1);
        Check.same("the first that is left", burnt.man(0, 5), 2);
        ColdFeet all = Check.of("man a 0 99 1;man b 0 99 1;man c 0 99 1;thing t 1 2 99;thing u 1 2 99;");
        all.go(1);
        Check.same("a's", all.man(0, 5), 0);
        Check.same("b's", all.man(1, 5), 1);
        Check.same("c's", all.man(2, 5), -2);
    }

    private static void byTheRank() {
        Check.about("(2), (3) by the RANK");
        String told = "man a 0 99 1;man b 0 99 1;man c 0 99 1;thing t 1 2 99;thing u 1 2 99;seed 1;risk 39;heat 0;";
        ColdFeet feet = Check.of(told);
        feet.swap(0, 2);
        feet.go(1);
        Check.same("c is first: 38, hurt", feet.man(2, 4), HURT);
        Check.same("b is second: 58", feet.man(1, 5), 1);
        Check.same("none is left for a", feet.man(0, 4), OUTSIDE);
    }

    // ---- (3)

    private static void numberBelowHurt() {
        Check.about("(3) a number modulo 100 below E of hurt: he is HURT");
        // 38 is the first one from 1 on
        int[][] rows = {{1, 0}, {37, 0}, {38, 0}, {39, 1}, {99, 1}};
        for (int[] row : rows) {
            for (String told : new String[] {"risk " + row[0], "law hurt " + row[0], "risk 0;law hurt " + row[0],
                "risk 100;law hurt " + row[0]}) {
                ColdFeet feet = Check.of("man a 0 99 1;thing t 1 2 99;seed 1;" + told + ";");
                feet.go(1);
                Check.same("hurt by " + told, feet.man(0, 4), row[1] == 1 ? HURT : IN);
            }
        }
    }

    private static void hurtOfNoughtToHundred() {
        Check.about("(3) E of hurt (0 .. 100)");
        String[] laws = {"0", "0-1", "0-100", "0-1000*1000*1000*1000", "100", "101", "200", "1000*1000*1000*1000"};
        for (int k = 0; k < laws.length; k++) {
            // the gust shows that no number was drawn for the hurt: 38 is the first one, 58 the second
            ColdFeet feet = Check.of("man a 0 99 1;thing t 1 2 99;seed 1;gust 39;heat 0;law hurt " + laws[k] + ";");
            feet.go(1);
            Check.same("hurt by " + laws[k], feet.man(0, 4), k < 4 ? IN : HURT);
            Check.same("a gust by 38 with " + laws[k], feet.count(8), 5);
        }
    }

    private static void riskWithoutAndWithAnError() {
        Check.about("(3) E of hurt: risk without, with an ERROR");
        for (String law : new String[] {"", "law hurt 1/0;", "law hurt 1000*1000*1000*1000+1;",
            "law hurt 0-1000*1000*1000*1000-1;"}) {
            int[][] rows = {{0, IN}, {38, IN}, {39, HURT}, {100, HURT}};
            for (int[] row : rows) {
                ColdFeet feet = Check.of("man a 0 99 1;thing t 1 2 99;seed 1;risk " + row[0] + ";" + law);
                feet.go(1);
                Check.same("risk " + row[0] + " " + law, feet.man(0, 4), row[1]);
            }
            ColdFeet feet = Check.of("man a 0 99 1;thing t 1 2 99;" + law);
            feet.go(1);
            Check.same("risk without " + law, feet.man(0, 4), IN);
        }
    }

    private static void noNumberOfNoughtOrHundred() {
        Check.about("(3) no number, if that is 0 or 100");
        // 38, 58, 13: a gust by the first one if the hurt took none, else by the second one
        int[][] rows = {{0, IN, 5}, {1, IN, 0}, {99, HURT, 0}, {100, HURT, 5}};
        for (int[] row : rows) {
            for (String told : new String[] {"risk ", "law hurt "}) {
                ColdFeet feet = Check.of("man a 0 99 1;thing t 1 2 99;seed 1;gust 39;heat 0;" + told + row[0] + ";");
                feet.go(1);
                Check.same("hurt at " + told + row[0], feet.man(0, 4), row[1]);
                Check.same("heat at " + told + row[0], feet.count(8), row[2]);
            }
        }
        ColdFeet nobody = Check.of("man a 99 0 1;thing t 1 2 99;seed 1;gust 39;heat 0;risk 50;");
        nobody.go(1);
        Check.same("no number of who isn't in", nobody.count(8), 5);
    }

    private static void hurtAndWhatHeHad() {
        Check.about("(3) he is HURT (and goes for nothing; what he had TAKEN is BURNT); else ..");
        for (int step = 0; step < 7; step++) {
            ColdFeet feet = Check.of("man a 0 99 1;thing t 1 3 99;law dare step=0;law hurt (step=" + step + ")*100;");
            feet.go(step + 1);
            if (step < 3) {
                // in the third STEP inside he would take it, but is hurt ahead of that
                state(feet, HURT, LEFT, "hurt at " + step);
            } else if (step < 6) {
                state(feet, HURT, BURNT, "hurt at " + step);
            } else {
                state(feet, OUTSIDE, SAVED, "out by " + step);
            }
            Check.same("he goes for nothing", feet.man(0, 5), -2);
            Check.same("nobody goes for it", feet.thing(0, 4), -2);
            Check.same("he isn't inside", feet.man(0, 6), 0);
            Check.same("how many are hurt", feet.count(6), step < 6 ? 1 : 0);
            Check.same("how many are burnt", feet.count(5), step >= 3 && step < 6 ? 1 : 0);
            Check.same("nobody is in", feet.count(7), 0);
        }
    }

    private static void insideForDepth() {
        Check.about("(3) if he is INSIDE for DEPTH STEPS: the THING is TAKEN; for twice as many: he is OUTSIDE, it is SAVED");
        for (int depth = 1; depth <= 6; depth++) {
            ColdFeet feet = Check.of("man a 0 99 1;thing t 1 " + depth + " 99;law dare step=0;");
            for (int steps = 1; steps <= 2 * depth + 1; steps++) {
                feet.go(1);
                boolean isOut = steps >= 2 * depth;
                state(feet, isOut ? OUTSIDE : IN, isOut ? SAVED : steps >= depth ? TAKEN : LEFT, "depth " + depth);
                Check.same("inside", feet.man(0, 6), isOut ? 0 : steps);
                Check.same("his thing", feet.man(0, 5), isOut ? -2 : 0);
                Check.same("its man", feet.thing(0, 4), isOut ? -2 : 0);
            }
        }
    }

    private static void takenIfLeft() {
        Check.about("(3) the THING is TAKEN, if it is LEFT; if it is TAKEN, it is SAVED");
        // it burns ahead of, in and behind the STEP in which he comes to it
        int[] ends = {BURNT, BURNT, SAVED, SAVED};
        for (int lasts = 0; lasts < 4; lasts++) {
            ColdFeet feet = Check.of("man a 0 50 1;thing t 7 3 " + lasts + ";law after 5;law dare step=0;");
            feet.go(5);
            Check.same("he is in", feet.man(0, 4), IN);
            feet.go(1);
            state(feet, OUTSIDE, ends[lasts], "lasts " + lasts);
            Check.same("the crowd's", feet.count(9), ends[lasts] == SAVED ? 106 : 99);
            Check.same("rue", feet.man(0, 1), ends[lasts] == SAVED ? 55 : 50);
        }
    }

    /** 9999 can't be reached: 999 and eight THINGS of 99 are 1791. */
    private static void crowdHasWorthMore() {
        Check.about("(3) the CROWD has WORTH more");
        StringBuilder text = new StringBuilder("crowd 999;heat 0;man a 0 0 9;");
        for (char name = 's'; name <= 'z'; name++) {
            text.append("thing ").append(name).append(" 99 1 99;");
        }
        ColdFeet feet = Check.of(text.toString());
        for (int k = 1; k <= 8; k++) {
            feet.go(1);
            Check.same("taken", feet.count(9), 999 + 99 * (k - 1));
            feet.go(1);
            Check.same("saved", feet.count(9), 999 + 99 * k);
            Check.same("worth", feet.count(10), 99 * k);
        }
        feet.go(9);
        Check.same("all are saved", feet.count(9), 1791);
    }

    private static void rueIsMore() {
        Check.about("(3) RUE is more by E of after (-9 .. 9), 0 .. 99");
        int[][] rows = {{50, 8, 58}, {50, 9, 59}, {50, 10, 59}, {50, 9999, 59}, {50, -8, 42}, {50, -9, 41}, {50, -10, 41},
            {50, -9999, 41}, {50, 0, 50}, {90, 9, 99}, {91, 8, 99}, {91, 9, 99}, {99, 1, 99}, {99, 9, 99}, {9, -9, 0},
            {8, -8, 0}, {8, -9, 0}, {0, -1, 0}, {0, -9, 0}, {0, 1, 1}, {99, -1, 98}};
        for (int[] row : rows) {
            String change = row[1] < 0 ? "0-" + -row[1] : "" + row[1];
            ColdFeet feet = Check.of("man a 0 " + row[0] + " 1;thing t 1 1 99;law after " + change + ";");
            feet.go(1);
            Check.same("not ahead of it", feet.man(0, 1), row[0]);
            feet.go(1);
            Check.same("rue " + row[0] + " after " + row[1], feet.man(0, 1), row[2]);
        }
        for (String law : new String[] {"1000*1000*1000*1000", "0-1000*1000*1000*1000"}) {
            ColdFeet feet = Check.of("man a 0 50 1;thing t 1 1 99;law after " + law + ";");
            feet.go(2);
            Check.same("after " + law, feet.man(0, 1), law.startsWith("0") ? 41 : 59);
        }
    }

    private static void rueWithoutAndWithAnError() {
        Check.about("(3) E of after: 0 without, with an ERROR");
        for (String law : new String[] {"", "law after 1/0;", "law after 1000*1000*1000*1000+1;",
            "law after 0-1000*1000*1000*1000-1;", "law after 7/(depth-1);"}) {
            ColdFeet feet = Check.of("man a 0 50 1;thing t 5 1 99;" + law);
            feet.go(2);
            Check.same("saved", feet.count(4), 1);
            Check.same("rue " + law, feet.man(0, 1), 50);
        }
    }

    // ---- (4), (5)

    private static void burntAtLasts() {
        Check.about("(4) THINGS that are LEFT and whose LASTS is this STEP are BURNT");
        for (int lasts : new int[] {0, 1, 50, 98, 99}) {
            ColdFeet feet = Check.of("thing t 1 1 " + lasts + ";thing u 1 1 " + Math.min(99, lasts + 1) + ";");
            feet.go(lasts);
            Check.same("left ahead of " + lasts, feet.thing(0, 3), LEFT);
            feet.go(1);
            Check.same("burnt by " + lasts, feet.thing(0, 3), BURNT);
            Check.same("the next one", feet.thing(1, 3), lasts == 99 ? BURNT : LEFT);
        }
        ColdFeet taken = Check.of("man a 0 99 1;thing t 1 1 0;");
        taken.go(1);
        state(taken, IN, TAKEN, "taken in the step in which it would burn");
        taken.go(1);
        state(taken, OUTSIDE, SAVED, "and saved");
        ColdFeet late = Check.of("man a 0 99 1;thing t 1 2 0;");
        late.go(1);
        state(late, IN, BURNT, "a step too late");
        late.go(2);
        state(late, IN, BURNT, "he goes for it still");
    }

    private static void heatAtMost() {
        Check.about("(5) HEAT is more by what it GROWS, 999 at most");
        ColdFeet feet = Check.of("heat 9;");
        feet.go(99);
        feet.go(11);
        Check.same("at 110", feet.count(8), 990);
        feet.go(1);
        Check.same("at 111", feet.count(8), 999);
        feet.go(1);
        Check.same("at 112", feet.count(8), 999);
        ColdFeet beyond = Check.of("heat 8;");
        beyond.go(99);
        beyond.go(25);
        Check.same("at 124", beyond.count(8), 992);
        beyond.go(1);
        Check.same("at 125", beyond.count(8), 999);
        ColdFeet gusts = Check.of("heat 1;gust 100;");
        gusts.go(99);
        gusts.go(67);
        Check.same("at 166", gusts.count(8), 996);
        gusts.go(1);
        Check.same("at 167", gusts.count(8), 999);
        ColdFeet none = Check.of("heat 0;");
        none.go(99);
        Check.same("it needn't grow", none.count(8), 0);
    }

    private static void gustOfNoughtAndHundred() {
        Check.about("(5) by 5, if a number modulo 100 is below gust (no number, if that is 0 or 100; at 100 always)");
        // 38, 58, 13 from 1 on; the hurt of the second STEP shows whether a number was drawn in the first one
        int[][] rows = {{0, 1}, {1, 1}, {38, 1}, {39, 6}, {99, 6}, {100, 6}};
        for (int[] row : rows) {
            ColdFeet feet = Check.of("heat 1;seed 1;gust " + row[0] + ";");
            feet.go(1);
            Check.same("heat by gust " + row[0], feet.count(8), row[1]);
        }
        int[][] drawn = {{0, HURT}, {1, IN}, {99, IN}, {100, HURT}};
        for (int[] row : drawn) {
            ColdFeet feet = Check.of("man a 0 99 1;thing t 1 4 99;seed 1;heat 0;law hurt (step=1)*39;gust " + row[0] + ";");
            feet.go(2);
            Check.same("hurt by the next number, gust " + row[0], feet.man(0, 4), row[1]);
        }
        ColdFeet always = Check.of("heat 0;gust 100;");
        always.go(99);
        Check.same("always", always.count(8), 495);
        ColdFeet never = Check.of("heat 0;gust 0;");
        never.go(99);
        Check.same("never", never.count(8), 0);
    }

    // ---- what E is

    private static void depthOfNone() {
        Check.about("depth: DEPTH of the THING he goes for (of dare would go for; 0 of none)");
        String laws = "law dare depth+100;law after depth+200;law hurt 0-depth;";
        ColdFeet feet = Check.of("man a 0 0 1;man b 0 0 1;thing t 1 6 99;thing u 1 2 99;" + laws);
        Check.same("dare, at first", feet.law(0, 0), 106);
        Check.same("after, of none", feet.law(1, 0), 200);
        Check.same("hurt, of none", feet.law(2, 0), 0);
        feet.hold(1, true);
        feet.go(1);
        Check.same("dare, of the next one", feet.law(0, 1), 102);
        Check.same("after", feet.law(1, 0), 206);
        Check.same("hurt", feet.law(2, 0), -6);
        feet.hold(1, false);
        feet.go(1);
        Check.same("dare, of none", feet.law(0, 0), 100);
        Check.same("without things", Check.of("man a 0 0 1;" + laws).law(0, 0), 100);
    }

    private static long worked(String formula) {
        return Check.of("man a 11 12 3;law hurt " + formula + ";").law(2, 0);
    }

    private static void works(String formula, long want) {
        Check.same(formula, worked(formula), want);
    }

    private static void whatIsNotNought() {
        Check.about("comparisons, and, or, not are 1 or 0 (what isn't 0 is as 1)");
        for (String some : new String[] {"1", "2", "9999", "(0-1)", "(0-9999)"}) {
            works("not " + some, 0);
            works("not not " + some, 1);
            works(some + " and " + some, 1);
            works(some + " and 0", 0);
            works("0 and " + some, 0);
            works(some + " or 0", 1);
            works("0 or " + some, 1);
            works(some + " or " + some, 1);
        }
        works("not 0", 1);
        works("0 and 0", 0);
        works("0 or 0", 0);
        String[] signs = {"<", "<=", "=", "<>", ">=", ">"};
        int[][] values = {{1, 0, 0}, {1, 1, 0}, {0, 1, 0}, {1, 0, 1}, {0, 1, 1}, {0, 0, 1}};
        for (int k = 0; k < signs.length; k++) {
            works("4" + signs[k] + "5", values[k][0]);
            works("5" + signs[k] + "5", values[k][1]);
            works("6" + signs[k] + "5", values[k][2]);
            works("(0-6)" + signs[k] + "(0-5)", values[k][0]);
            works("(0-5)" + signs[k] + "0-5", values[k][1]);
            works("1" + signs[k] + "0-1", values[k][2]);
        }
    }

    private static void bothSidesAreWorkedOut() {
        Check.about("both sides are worked out");
        String[] formulas = {"1 or 1/0", "1/0 or 1", "0 and 1/0", "1/0 and 0", "0*(1/0)", "not(1/0)", "(1/0)<1", "1<1/0",
            "1 or 1 or 1/0", "0 and 0 and 1/0", "1-1/0", "(1/0)/0", "0/(1/0)"};
        for (String formula : formulas) {
            works(formula, Long.MIN_VALUE);
        }
    }

    private static void cutTowardsNought() {
        Check.about("/ is cut towards 0");
        works("7/2", 3);
        works("8/2", 4);
        works("1/2", 0);
        works("(0-1)/2", 0);
        works("(0-7)/2", -3);
        works("7/(0-2)", -3);
        works("(0-7)/(0-2)", 3);
        works("0/7", 0);
        works("(0-99)/100", 0);
        works("(0-100)/100", -1);
        works("1000*1000*1000*1000/(0-1)", -1000000000000L);
    }

    private static void errorByNought() {
        Check.about("ERROR: / by 0");
        works("1/1", 1);
        works("1/(0-1)", -1);
        works("1/0", Long.MIN_VALUE);
        works("0/0", Long.MIN_VALUE);
        works("1/(1-1)", Long.MIN_VALUE);
        works("1/(fear-11)", Long.MIN_VALUE);
        works("1/(1/2)", Long.MIN_VALUE);
    }

    private static void errorAboveTenToTheTwelve() {
        Check.about("ERROR: a value above 10 to the 12 or below 0 by more than that");
        String most = "1000*1000*1000*1000";
        works(most, 1000000000000L);
        works(most + "-1+1", 1000000000000L);
        works(most + "+0", 1000000000000L);
        works(most + "+1", Long.MIN_VALUE);
        works(most + "+1-1", Long.MIN_VALUE);
        works("1+" + most, Long.MIN_VALUE);
        works(most + "*1", 1000000000000L);
        works(most + "*2/2", Long.MIN_VALUE);
        works("0-" + most, -1000000000000L);
        works("0-" + most + "-1", Long.MIN_VALUE);
        works("0-" + most + "-1+1", Long.MIN_VALUE);
        works("(0-1)*" + most, -1000000000000L);
        works("(0-1000)*1000*1000*1000", -1000000000000L);
        works("(0-1000)*(0-1000)*(0-1000)*(0-1000)", 1000000000000L);
        works("1001*1000*1000*1000", Long.MIN_VALUE);
        works("(0-1001)*1000*1000*1000", Long.MIN_VALUE);
        works("(" + most + ")-(0-" + most + ")", Long.MIN_VALUE);
        works("(" + most + ")*0", 0);
        works("0*(" + most + ")", 0);
        works("(" + most + ")=" + most, 1);
        works("(" + most + ")<" + most + "+1", Long.MIN_VALUE);
        // products that a long would wrap around to what is taken
        works("(" + most + ")*(" + most + ")", Long.MIN_VALUE);
        works("(0-" + most + ")*(" + most + ")", Long.MIN_VALUE);
        works("(4096*4096*4096)*(4096*4096*64)", Long.MIN_VALUE);
        works("(4096*4096*2048)*(4096*4096*2048)", Long.MIN_VALUE);
        works("(0-4096*4096*2048)*(4096*4096*2048)", Long.MIN_VALUE);
        works("(4096*4096*256)*(4096*4096*256)", Long.MIN_VALUE);
    }

    private static void numbersWithin31Bits() {
        Check.about("Numbers are the last one (at first the seed) times 1103515245 and 12345, without what is above 31 bits");
        for (int seed : new int[] {0, 1, 2, 1946, 1947, 65535, 65536, 99999}) {
            Numbers numbers = new Numbers(seed);
            ColdFeet feet = Check.of("seed " + seed + ";gust 50;heat 0;");
            int heat = 0;
            for (int k = 0; k < 150; k++) {
                feet.go(1);
                heat += numbers.next() < 50 ? 5 : 0;
                Check.same("heat by seed " + seed + " at " + k, feet.count(8), heat);
            }
        }
    }

    private static void oddsOfFifty() {
        Check.about("AS IT GOES: without numbers: one is HURT, there is a gust, if the odds are 50 at least");
        String told = "man a 0 99 1;thing t 5 1 99;heat 0;seed 1;";
        int[][] rows = {{0, 0}, {1, 0}, {49, 0}, {50, 1}, {51, 1}, {99, 1}, {100, 1}};
        for (int[] row : rows) {
            for (String hurt : new String[] {"risk " + row[0], "law hurt " + row[0], "law hurt 1/0;risk " + row[0]}) {
                ColdFeet feet = Check.of(told + hurt + ";");
                Check.same("hurt by " + hurt, feet.ahead(2, 2), row[1]);
                Check.same("saved by " + hurt, feet.ahead(2, 0), 1 - row[1]);
            }
            ColdFeet gust = Check.of(told + "gust " + row[0] + ";");
            Check.same("heat by gust " + row[0], gust.ahead(3, 3), 15 * row[1]);
        }
        for (String law : new String[] {"0-1", "0-50"}) {
            Check.same("hurt by " + law, Check.of(told + "law hurt " + law + ";").ahead(2, 2), 0);
        }
        Check.same("hurt by 1000", Check.of(told + "law hurt 1000;").ahead(2, 2), 1);
    }
}
