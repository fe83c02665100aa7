import java.util.NoSuchElementException;

/** Promises 6, 7, 8 and 35: man, thing, law, count, and the STEP that they show. */
final class NowTest {
    public static void main(String[] args) {
        aRescue();
        wrongMen();
        wrongThings();
        hurtWithAThing();
        hurtAheadOfIt();
        burntOnTheWay();
        afterIsBounded();
        lookRefused();
        heatGrows();
        values();
        errors();
        longLaws();
        looksOfLaws();
        namesOfLaws();
        lawsThatAreNot();
        errorsFallBack();
        rankDecides();
        Check.same("count(-1)", new ColdFeet().count(-1), -1);
        Check.same("count(15)", new ColdFeet().count(15), -1);
        Check.end();
    }

    static void man(ColdFeet feet, int man, int... want) {
        for (int what = 0; what < want.length; what++) {
            Check.same("step " + feet.count(3) + " man(" + man + ", " + what + ")", feet.man(man, what), want[what]);
        }
    }

    static void thing(ColdFeet feet, int thing, int... want) {
        for (int what = 0; what < want.length; what++) {
            Check.same("step " + feet.count(3) + " thing(" + thing + ", " + what + ")", feet.thing(thing, what),
                want[what]);
        }
    }

    static void counts(ColdFeet feet, int... want) {
        for (int what = 0; what < want.length; what++) {
            Check.same("step " + feet.count(3) + " count(" + what + ")", feet.count(what), want[what]);
        }
    }

    private static void aRescue() {
        ColdFeet feet = Check.of("man ann 30 20 3;man bo 10 10 2;thing cat 9 1 9;thing box 40 2 3;"
            + "look ann 1 15;crowd 20;law after depth*2;");
        man(feet, 0, 30, 20, 3, 0, 0, -2, 0, 0, 0);
        thing(feet, 1, 40, 2, 3, 0, -2);
        counts(feet, 2, 2, 3, 0, 0, 0, 0, 0, 0, 20, 0, 0, 0, 0, 0);
        feet.go(1);
        man(feet, 1, 10, 10, 2, 0, 1, 0, 1, 1, 0);
        man(feet, 0, 30, 20, 3, 0, 0, -2, 0, 0, 0);
        thing(feet, 0, 9, 1, 9, 1, 1);
        counts(feet, 2, 2, 3, 1, 0, 0, 0, 1, 1, 20, 0, 0);
        feet.go(1);
        man(feet, 1, 10, 12, 2, 0, 0, -2, 0, 1, 0);
        man(feet, 0, 30, 20, 3, 15, 1, 1, 1, 0, 0);
        thing(feet, 0, 9, 1, 9, 2, -2);
        thing(feet, 1, 40, 2, 3, 0, 0);
        counts(feet, 2, 2, 3, 2, 1, 0, 0, 1, 2, 14, 9, 0);
        feet.go(1);
        thing(feet, 1, 40, 2, 3, 1, 0);
        feet.go(1);
        man(feet, 0, 30, 20, 3, 15, 1, 1, 3, 0, 0);
        thing(feet, 1, 40, 2, 3, 1, 0);
        feet.go(1);
        man(feet, 0, 30, 24, 3, 15, 0, -2, 0, 0, 0);
        counts(feet, 2, 2, 3, 5, 2, 0, 0, 0, 5, 54, 49, 0);
    }

    private static int thrownBy(ColdFeet feet, int man, int what) {
        try {
            feet.man(man, what);
            return 0;
        } catch (IndexOutOfBoundsException e) {
            return 1;
        } catch (NoSuchElementException e) {
            return 2;
        }
    }

    private static void wrongMen() {
        ColdFeet feet = Check.of("man a 1 2 3;man b 1 2 3;");
        Check.same("man(1, 8)", thrownBy(feet, 1, 8), 0);
        Check.same("man(-1, 0)", thrownBy(feet, -1, 0), 1);
        Check.same("man(2, 0)", thrownBy(feet, 2, 0), 1);
        Check.same("man(2, 9)", thrownBy(feet, 2, 9), 1);
        Check.same("man(max, 9)", thrownBy(feet, Integer.MAX_VALUE, 9), 1);
        Check.same("man(0, 9)", thrownBy(feet, 0, 9), 2);
        Check.same("man(0, -1)", thrownBy(feet, 0, -1), 2);
        Check.same("man(0, 0) of none", thrownBy(new ColdFeet(), 0, 0), 1);
    }

    private static void wrongThings() {
        ColdFeet feet = Check.of("thing a 1 2 3;");
        Check.same("thing(-1, 0)", feet.thing(-1, 0), -1);
        Check.same("thing(1, 0)", feet.thing(1, 0), -1);
        Check.same("thing(0, 5)", feet.thing(0, 5), -1);
        Check.same("thing(0, -1)", feet.thing(0, -1), -1);
    }

    private static void hurtWithAThing() {
        ColdFeet feet = Check.of("man m 0 50 9;thing t 5 2 9;thing u 6 1 5;law hurt (step>=2)*1000;");
        feet.go(2);
        thing(feet, 0, 5, 2, 9, 1, 0);
        feet.go(1);
        man(feet, 0, 0, 50, 9, 0, 2, -2, 0, 0, 0);
        thing(feet, 0, 5, 2, 9, 3, -2);
        counts(feet, 1, 2, 5, 3, 0, 1, 1, 0, 3, 99, 0);
        feet.go(2);
        thing(feet, 1, 6, 1, 5, 0, -2);
        feet.go(1);
        thing(feet, 1, 6, 1, 5, 3, -2);
        Check.same("both burnt", feet.count(5), 2);
    }

    private static void hurtAheadOfIt() {
        ColdFeet feet = Check.of("man m 0 50 9;thing t 5 2 9;law hurt (step>=1)*100;");
        feet.go(2);
        man(feet, 0, 0, 50, 9, 0, 2, -2, 0, 0, 0);
        thing(feet, 0, 5, 2, 9, 0, -2);
    }

    private static void burntOnTheWay() {
        ColdFeet feet = Check.of("man m 0 50 9;thing t 5 3 1;law after 5;");
        feet.go(2);
        thing(feet, 0, 5, 3, 1, 3, 0);
        feet.go(3);
        man(feet, 0, 0, 50, 9, 0, 1, 0, 5, 0, 0);
        feet.go(1);
        man(feet, 0, 0, 50, 9, 0, 0, -2, 0, 0, 0);
        counts(feet, 1, 1, 1, 6, 0, 1, 0, 0, 6, 99, 0);
    }

    private static void afterIsBounded() {
        String rest = "thing t 5 1 9;law after ";
        int[][] rows = {{50, 10, 59}, {50, 9, 59}, {95, 9, 99}, {50, -10, 41}, {4, -9, 0}, {50, 3, 53}};
        for (int[] row : rows) {
            String change = row[1] < 0 ? "0-" + -row[1] : "" + row[1];
            ColdFeet feet = Check.of("man m 0 " + row[0] + " 9;" + rest + change + ";");
            feet.go(2);
            Check.same("rue " + row[0] + " after " + row[1], feet.man(0, 1), row[2]);
        }
    }

    private static void lookRefused() {
        ColdFeet feet = Check.of("man a 99 0 1;look a 1 20;look a 0 30;look a 0 21;look a 0 20;look a 0 1;crowd 50;");
        feet.go(1);
        Check.same("30 and 20 are paid", feet.man(0, 3), 50);
        Check.same("21 and 1 are refused", feet.count(11), 2);
        feet.go(1);
        Check.same("20 too", feet.count(11), 3);
    }

    private static void heatGrows() {
        ColdFeet feet = Check.of("heat 9;gust 100;");
        feet.go(2);
        Check.same("heat with gusts", feet.count(8), 28);
        feet.go(69);
        Check.same("heat ahead of its end", feet.count(8), 994);
        feet.go(1);
        Check.same("heat at most", feet.count(8), 999);
    }

    private static void value(String formula, long want) {
        Check.same(formula, Check.of("man a 1 1 1;law hurt " + formula + ";").law(2, 0), want);
    }

    private static void values() {
        value("1+2*3", 7);
        value("(1+2)*3", 9);
        value("10-4-3", 3);
        value("10-(4-3)", 9);
        value("100/10/5", 2);
        value("7*3/2*5", 50);
        value("(0-7)/2", -3);
        value("7/(0-2)", -3);
        value("2-5", -3);
        value("not 0", 1);
        value("not 5", 0);
        value("not not 5", 1);
        value("not 1<0", 1);
        value("not 2=1+1 or 0", 0);
        value("2 and 3", 1);
        value("2 and 0", 0);
        value("0 or 4", 1);
        value("0 or 0", 0);
        value("1 or 1 and 0", 1);
        value("(1 or 1) and 0", 0);
        value("0 and 0 or 1", 1);
        value("not 0 and 0", 0);
        value("2<3", 1);
        value("3<3", 0);
        value("3<=3", 1);
        value("4<=3", 0);
        value("3=3", 1);
        value("2=3", 0);
        value("2<>3", 1);
        value("3<>3", 0);
        value("3>=3", 1);
        value("2>=3", 0);
        value("4>3", 1);
        value("3>3", 0);
        value("1+1<3*1", 1);
        value("(5>4)+(3>4)+(2>1)", 2);
    }

    private static void errors() {
        String most = "1000*1000*1000*1000";
        value(most, 1000000000000L);
        value(most + "+1", Long.MIN_VALUE);
        value("0-" + most, -1000000000000L);
        value("0-" + most + "-1", Long.MIN_VALUE);
        value(most + "*2/2", Long.MIN_VALUE);
        value("9999*9999*9999*2", Long.MIN_VALUE);
        value("(0-9999*9999*9999)*(9999*9999*9999)", Long.MIN_VALUE);
        value("(9999*9999*9999)*(0-2)", Long.MIN_VALUE);
        value("(4096*1024*1024)*(4096*1024*1024)", Long.MIN_VALUE);
        value("(0-4096*1024*1024)*(4096*1024*1024)", Long.MIN_VALUE);
        value(most + "*(0-1)", -1000000000000L);
        value(most + "*0", 0);
        value("0*(" + most + ")", 0);
        value("5/0", Long.MIN_VALUE);
        value("0/0", Long.MIN_VALUE);
        value("1 or 1/0", Long.MIN_VALUE);
        value("0 and 1/0", Long.MIN_VALUE);
        value("not(1/0)", Long.MIN_VALUE);
    }

    /** Laws of 64 KNOTS, with as many signs waiting as can be. */
    private static void longLaws() {
        StringBuilder nots = new StringBuilder();
        StringBuilder sum = new StringBuilder("step");
        for (int k = 0; k < 31; k++) {
            nots.append("not ");
            sum.append("+").append(k);
        }
        value(nots + "9", 0);
        value(nots + "" + nots + "not 0", 1);
        value("not(not(" + nots + "(not(not(not(not(not(" + nots.substring(0, 25 * 4) + "5))))))))", 0);
        value("not " + sum, 0);
        value(sum.toString(), 465);
    }

    private static void looksOfLaws() {
        String told = "man a 0 9 9;thing t 5 1 50;law ";
        ColdFeet hurt = Check.of(told + "hurt looks*100;");
        hurt.go(1);
        Check.same("no looks, no hurt", hurt.man(0, 4), 1);
        hurt.pay(0, 1);
        hurt.go(1);
        Check.same("a look, a hurt", hurt.man(0, 4), 2);
        ColdFeet after = Check.of(told + "after looks-hot;");
        after.pay(0, 3);
        after.go(2);
        Check.same("rue by looks and heat", after.man(0, 1), 11);
    }

    private static void namesOfLaws() {
        String[] names = {"fear", "rue", "skill", "looks", "hot", "depth", "step"};
        int[] dare = {12, 34, 5, 9, 14, 3, 2};
        int[] after = {12, 34, 5, 9, 14, 0, 2};
        for (int k = 0; k < names.length; k++) {
            ColdFeet feet = Check.of("man a 12 34 5;man b 0 0 1;thing t 5 3 50;thing u 5 2 50;heat 7;law dare " + names[k]
                + ";law after " + names[k] + ";law hurt 0-" + names[k] + ";");
            feet.pay(0, 9);
            feet.hold(0, true);
            feet.hold(1, true);
            feet.go(2);
            Check.same("dare " + names[k], feet.law(0, 0), dare[k]);
            Check.same("after " + names[k], feet.law(1, 0), after[k]);
            Check.same("hurt " + names[k], feet.law(2, 0), -after[k]);
        }
        ColdFeet feet = Check.of("man a 0 9 5;thing t 5 3 50;thing u 5 2 50;law dare depth;law hurt 0-depth;");
        feet.go(1);
        Check.same("dare: of the next thing", feet.law(0, 0), 2);
        Check.same("hurt: of his thing", feet.law(2, 0), -3);
    }

    private static void lawsThatAreNot() {
        ColdFeet feet = Check.of("man a 1 1 1;law dare 7;");
        Check.same("law(0, 0)", feet.law(0, 0), 7);
        Check.same("law(1, 0) isn't told", feet.law(1, 0), Long.MIN_VALUE);
        Check.same("law(2, 0) isn't told", feet.law(2, 0), Long.MIN_VALUE);
        Check.same("law(3, 0)", feet.law(3, 0), Long.MIN_VALUE);
        Check.same("law(-1, 0)", feet.law(-1, 0), Long.MIN_VALUE);
        Check.same("law(0, 1)", feet.law(0, 1), Long.MIN_VALUE);
        Check.same("law(0, -1)", feet.law(0, -1), Long.MIN_VALUE);
    }

    private static void errorsFallBack() {
        String told = "man a 5 5 9;man b 6 5 9;thing t 5 1 50;thing u 5 1 50;";
        ColdFeet feet = Check.of(told + "law dare 1/0;law after 1/0;law hurt 1/0;risk 0;");
        feet.go(1);
        Check.same("a dares by what is without", feet.man(0, 4), 1);
        Check.same("b doesn't", feet.man(1, 4), 0);
        feet.go(1);
        Check.same("rue stays", feet.man(0, 1), 5);
        ColdFeet hurt = Check.of(told + "law hurt 1/0;risk 100;");
        hurt.go(1);
        Check.same("risk with an error", hurt.man(0, 4), 2);
        ColdFeet safe = Check.of(told + "law hurt 0-5;risk 100;");
        safe.go(1);
        Check.same("below 0 is 0", safe.man(0, 4), 1);
        ColdFeet never = Check.of("man a 0 99 9;thing t 5 1 50;law dare 0;");
        never.go(5);
        Check.same("he dares not by the law", never.man(0, 4), 0);
    }

    private static void rankDecides() {
        ColdFeet feet = Check.of("man a 0 9 9;man b 0 9 9;thing t 5 1 50;thing u 5 1 50;");
        feet.swap(0, 1);
        feet.go(1);
        Check.same("b is first", feet.man(1, 5), 0);
        Check.same("a is second", feet.man(0, 5), 1);
    }
}
