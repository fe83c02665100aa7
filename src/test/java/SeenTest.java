/** Promises 26 to 29: see, strike, known, rues. */
final class SeenTest {
    private static final String HOUSE = "man ann 30 20 3;man bo 10 10 2;thing cat 9 1 9;thing box 40 2 3;"
        + "look ann 1 15;look bo 2 99;crowd 20;";

    public static void main(String[] args) {
        wrongOnes();
        twentyFour();
        rues();
        strikes();
        knownByN();
        fromTheTextOn();
        edgesOfSteps();
        Check.end();
    }

    private static void wrongOnes() {
        ColdFeet feet = Check.of(HOUSE);
        Check.same("see(0, 0)", feet.see(0, 0, true), -1);
        Check.same("see(61, 0)", feet.see(61, 0, true), -1);
        Check.same("see(1, 2)", feet.see(1, 2, true), -1);
        Check.same("see(1, -1)", feet.see(1, -1, true), -1);
        Check.same("strike(0) of none", feet.strike(0), -1);
        Check.same("known(1) of none", feet.known(1), false);
        Check.same("known(0)", feet.known(0), true);
        Check.same("known(-1)", feet.known(-1), true);
        Check.same("known(-2)", feet.known(-2), false);
        Check.same("rues(2)", feet.rues(2), -1);
        Check.same("rues(-1)", feet.rues(-1), -1);
        Check.same("all may be", feet.rues(0), 1023);
        Check.same("see(1, 0)", feet.see(1, 0, false), 0);
        Check.same("see(60, 1)", feet.see(60, 1, false), 1);
        Check.same("strike(2)", feet.strike(2), -1);
        Check.same("strike(-1)", feet.strike(-1), -1);
        Check.same("strike(1)", feet.strike(1), 2);
        Check.same("strike(1) again", feet.strike(1), 3);
        Check.same("seen", feet.count(12), 4);
        Check.same("known by all", feet.count(13), 4);
        Check.same("known(5)", feet.known(5), false);
        Check.same("known(4)", feet.known(4), true);
        feet.see(2, 0, true);
        Check.same("known by four", feet.count(13), 4);
        feet.known(-1);
        feet.see(2, 0, true);
        Check.same("known by those to come", feet.count(13), 6);
    }

    private static void twentyFour() {
        ColdFeet feet = Check.of(HOUSE);
        for (int k = 0; k < 24; k++) {
            Check.same("number " + k, k % 2 == 0 ? feet.see(1, 0, false) : feet.strike(k - 1), k);
        }
        Check.same("see of 24", feet.see(1, 0, false), -1);
        Check.same("strike of 24", feet.strike(0), -1);
        Check.same("seen", feet.count(12), 24);
        Check.same("all are struck", feet.rues(1), 1023);
    }

    private static void rues() {
        ColdFeet feet = Check.of(HOUSE);
        feet.see(2, 0, true);
        Check.same("bo dares at 10", feet.rues(1), 1022);
        Check.same("ann doesn't matter", feet.rues(0), 1023);
        feet.see(5, 1, true);
        Check.same("ann dares at 20", feet.rues(0), 1020);
        ColdFeet tens = Check.of("man a 0 0 9;thing t 5 1 9;law dare rue=0 or rue=30 or rue=90 or rue=100;");
        tens.see(2, 0, true);
        Check.same("0, 30, 90", tens.rues(0), 0b1000001001);
        ColdFeet none = Check.of(HOUSE);
        none.see(2, 0, false);
        Check.same("bo doesn't dare", none.rues(1), 1);
        Check.same("by ann nothing", none.rues(0), 0);
        Check.same("rue is as it was", none.man(1, 1), 10);
        none.see(2, 0, true);
        Check.same("none fits both", none.rues(1), 0);
    }

    private static void strikes() {
        ColdFeet feet = Check.of(HOUSE);
        feet.see(2, 0, false);
        Check.same("0: seen", feet.rues(1), 1);
        feet.strike(0);
        Check.same("1 strikes 0", feet.rues(1), 1023);
        feet.strike(1);
        Check.same("2 strikes 1", feet.rues(1), 1);
        feet.strike(2);
        Check.same("3 strikes 2", feet.rues(1), 1023);
        feet.strike(0);
        Check.same("4 strikes 0, too", feet.rues(1), 1023);
        feet.strike(3);
        Check.same("5 strikes 3, 4 counts still", feet.rues(1), 1023);
        feet.strike(4);
        Check.same("6 strikes 4", feet.rues(1), 1);
    }

    private static void knownByN() {
        ColdFeet feet = Check.of(HOUSE);
        feet.see(2, 0, false);
        feet.strike(0);
        feet.strike(1);
        feet.see(2, 0, true);
        int[] want = {1023, 1, 1023, 1, 0};
        for (int n = 0; n < want.length; n++) {
            Check.same("known(" + n + ")", feet.known(n), true);
            Check.same("rues by " + n, feet.rues(1), want[n]);
        }
        feet.known(-1);
        Check.same("rues by all", feet.rues(1), 0);
        feet.strike(0);
        Check.same("and by those to come", feet.rues(1), 1022);
        Check.same("a new text", Check.tell(feet, HOUSE), 7);
        Check.same("nothing is seen", feet.count(12), 0);
    }

    private static void fromTheTextOn() {
        ColdFeet feet = Check.of(HOUSE + "risk 49;gust 49;seed 3;");
        feet.see(2, 0, true);
        feet.see(5, 1, true);
        feet.hold(1, true);
        feet.pay(0, 15);
        feet.swap(0, 1);
        feet.wet(1, 20);
        feet.go(7);
        Check.same("nothing done by call", feet.rues(0), 1020);
        Check.same("nor by steps", feet.rues(1), 1022);
        ColdFeet hurt = Check.of("man a 0 9 9;thing t 5 1 9;risk 50;");
        hurt.see(60, 0, false);
        Check.same("hurt as it goes", hurt.rues(0), 1023);
    }

    private static void edgesOfSteps() {
        ColdFeet feet = Check.of("man a 0 0 9;thing t 5 1 99;law dare step=58 and rue>=50;");
        feet.see(59, 0, false);
        Check.same("not behind 59", feet.rues(0), 1023);
        feet.see(60, 0, true);
        Check.same("behind 60", feet.rues(0), 0b1111100000);
    }
}
