/** Promise 30 and the numbers that go() draws. */
final class ChanceTest {
    /** The first numbers from 1 on are known: 16838, 5758, 10113, 17515, 31051, 5627, 23010, 7419, 16212, 4086. */
    private static final int[] FROM_ONE = {38, 58, 13, 15, 51, 27, 10, 19, 12, 86};

    public static void main(String[] args) {
        gustsByNumbers();
        hurtsByNumbers();
        noNumbersForWhatIsSure();
        ordersOfNumbers();
        chances();
        wrongOnes();
        Check.end();
    }

    private static void gustsByNumbers() {
        for (int gust : new int[] {1, 38, 39, 58, 59, 87, 99}) {
            ColdFeet feet = Check.of("gust " + gust + ";heat 1;seed 1;");
            int heat = 0;
            for (int number : FROM_ONE) {
                heat += number < gust ? 6 : 1;
                feet.go(1);
                Check.same("gust " + gust + " number " + number, feet.count(8), heat);
            }
        }
    }

    private static void hurtsByNumbers() {
        for (int risk : new int[] {13, 14, 38, 39}) {
            ColdFeet feet = Check.of("man a 0 9 9;thing t 5 2 99;seed 1;risk " + risk + ";");
            feet.go(4);
            Check.same("risk " + risk, feet.man(0, 4), risk > 13 ? 2 : 0);
            Check.same("saved at risk " + risk, feet.count(4), risk > 13 ? 0 : 1);
        }
    }

    private static void noNumbersForWhatIsSure() {
        ColdFeet feet = Check.of("man a 0 9 9;thing t 5 2 99;seed 1;law hurt (step=3)*100;gust 39;heat 0;");
        feet.go(4);
        Check.same("hurt for sure", feet.man(0, 4), 2);
        Check.same("38, 58, 13, 15 are of gusts", feet.count(8), 15);
        ColdFeet other = Check.of("man a 0 9 9;thing t 5 2 99;seed 1;risk 39;gust 100;heat 0;");
        other.go(1);
        Check.same("38 is of the hurt", other.man(0, 4), 2);
        Check.same("always a gust", other.count(8), 5);
    }

    private static void ordersOfNumbers() {
        String told = "man a 0 9 9;man b 0 9 9;thing t 5 2 99;thing u 5 2 99;seed 1;risk 39;gust 14;heat 0;";
        ColdFeet feet = Check.of(told);
        feet.go(1);
        Check.same("38 is a's", feet.man(0, 4), 2);
        Check.same("58 is b's", feet.man(1, 4), 1);
        Check.same("13 is the gust's", feet.count(8), 5);
        ColdFeet other = Check.of(told);
        other.swap(0, 1);
        other.go(1);
        Check.same("38 is b's by the rank", other.man(1, 4), 2);
        Check.same("58 is a's", other.man(0, 4), 1);
    }

    private static void chances() {
        String told = "man a 0 9 9;thing t 5 1 99;seed 77;risk ";
        ColdFeet half = Check.of(told + "50;");
        Check.same("risk 50 from 1 on", half.chance(1, 2, 1), 1);
        Check.same("0 at least", half.chance(1, 2, 0), 10);
        Check.same("2 at least", half.chance(1, 2, 2), 0);
        Check.same("in one step", half.chance(1, 1, 1), 0);
        ColdFeet third = Check.of(told + "30;");
        Check.same("risk 30 from 1 on", third.chance(1, 2, 1), 3);
        Check.same("risk 30 from the highest on", third.chance(2147483647, 2, 1), 5);
        Check.same("risk 30 from 0 on", third.chance(0, 99, 1), 5);
        ColdFeet sure = Check.of(told + "0;");
        Check.same("sure", sure.chance(5, 2, 1), 10);
        sure.go(2);
        Check.same("with what is saved by now", sure.chance(5, 1, 1), 10);
    }

    private static void wrongOnes() {
        ColdFeet feet = new ColdFeet();
        Check.same("chance(-1, 1, 0)", feet.chance(-1, 1, 0), -1);
        Check.same("chance(0, 0, 0)", feet.chance(0, 0, 0), -1);
        Check.same("chance(0, 100, 0)", feet.chance(0, 100, 0), -1);
        Check.same("chance(0, 1, -1)", feet.chance(0, 1, -1), -1);
        Check.same("chance(0, 1, 9)", feet.chance(0, 1, 9), -1);
        Check.same("chance(0, 99, 8)", feet.chance(0, 99, 8), 0);
        Check.same("chance(0, 1, 0)", feet.chance(0, 1, 0), 10);
    }
}
