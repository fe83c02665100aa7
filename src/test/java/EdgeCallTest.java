import java.util.NoSuchElementException;

/** The bounds that promises 1 to 13 and 32 to 35 and the paragraph ==== 4 name, a method for each sentence. */
final class EdgeCallTest {
    private static final int BLANKS = 0x20202020;
    private static final int[] FAR = {Integer.MIN_VALUE, Integer.MIN_VALUE + 1, -100, -2, 1 << 30, Integer.MAX_VALUE - 19,
        Integer.MAX_VALUE};

    public static void main(String[] args) {
        callsOfAnObject();
        newObject();
        bytesOfFeed();
        sevenHundredBytes();
        firstBytesOfTheTape();
        tapeIsEmptyThen();
        tapeStays();
        textOfNow();
        whatsOfFault();
        latestText();
        lettersOfNames();
        whatsOfNamed();
        whatsOfMan();
        noSuchMan();
        whatsOfThing();
        whatsOfLaw();
        looksOfPay();
        crowdOfPay();
        menOfSwap();
        menOfHold();
        stepsOfWet();
        mostLasts();
        wetOfWhatIsNotLeft();
        stepsOfGo();
        lastStep();
        undoesTheLatest();
        twentyAtMost();
        twentyOfEachKind();
        undoesEachKind();
        noStepWentBy();
        imageInPlaceOfOne();
        imageOfAll();
        noImage();
        whatsOfCount();
        Check.end();
    }

    private static String men(int n) {
        StringBuilder men = new StringBuilder();
        for (int k = 0; k < n; k++) {
            men.append("man ").append((char) ('a' + k)).append(" 50 0 1;");
        }
        return men.toString();
    }

    private static String things(int n) {
        StringBuilder things = new StringBuilder();
        for (int k = 0; k < n; k++) {
            things.append("thing ").append((char) ('a' + k)).append(" 1 1 50;");
        }
        return things.toString();
    }

    private static void callsOfAnObject() {
        Check.about("An object is used for at most 512 calls after it has been made");
        ColdFeet feet = Check.of("man a 50 0 1;");
        // one feed and one text by now
        for (int call = 3; call < 512; call++) {
            boolean isPay = call % 2 == 1;
            Check.same("call " + call, isPay ? feet.pay(0, 99) : feet.undo(), 0);
        }
        Check.same("the 512th call", feet.man(0, 3), 99);
    }

    private static void newObject() {
        Check.about("Promise 1: A TEXT without LINES; an empty TAPE");
        ColdFeet feet = new ColdFeet();
        Check.same("text(1)", feet.text(1), -2);
        for (int what = 0; what < 15; what++) {
            Check.same("count(" + what + ")", feet.count(what), what == 9 ? 99 : 0);
        }
        Check.same("fault(0)", feet.fault(0), 0);
        Check.same("fault(1)", feet.fault(1), -1);
        Check.same("named", feet.named(0, Check.letters("a")), -1);
        Check.same("named, no letters", feet.named(0, 0), -1);
        Check.same("law", feet.law(0, 0), Long.MIN_VALUE);
        Check.same("pay", feet.pay(0, 1), -1);
        Check.same("swap", feet.swap(0, 1), false);
        Check.same("hold", feet.hold(0, true), false);
        Check.same("wet", feet.wet(0, 1), -1);
        Check.same("thing", feet.thing(0, 0), -1);
        Check.same("undo", feet.undo(), -1);
        Check.same("back", feet.back(), -1);
        Check.same("feed", feet.feed(0, 0, 0, 0, 0), 20);
    }

    // ---- promises 2 to 5

    private static void bytesOfFeed() {
        Check.about("Promise 2: Twenty bytes come behind the TAPE, four of each number, the highest first: how many it has");
        ColdFeet feet = new ColdFeet();
        // "man a 12 34 5;heat 6"
        Check.same("feed", feet.feed(0x6d616e20, 0x61203132, 0x20333420, 0x353b6865, 0x61742036), 20);
        Check.same("feed", feet.feed(0x3b202020, BLANKS, BLANKS, BLANKS, BLANKS), 40);
        Check.same("text", feet.text(40), 2);
        Check.same("fear", feet.man(0, 0), 12);
        Check.same("rue", feet.man(0, 1), 34);
        Check.same("skill", feet.man(0, 2), 5);
        feet.go(1);
        Check.same("heat", feet.count(8), 6);
        // bytes above 127 are kept as they are
        feet.feed(BLANKS, 0x202020ff, BLANKS, BLANKS, 0x80000000);
        Check.same("text of 255", feet.text(20), -1);
        Check.same("its place", feet.fault(1), 7);
        feet.feed(BLANKS, BLANKS, BLANKS, BLANKS, 0x80202020);
        Check.same("text of 128", feet.text(20), -1);
        Check.same("its place", feet.fault(1), 16);
        for (int at = 0; at < 20; at++) {
            int[] numbers = {BLANKS, BLANKS, BLANKS, BLANKS, BLANKS};
            numbers[at / 4] ^= 1 << (24 - 8 * (at % 4));
            feet.feed(numbers[0], numbers[1], numbers[2], numbers[3], numbers[4]);
            Check.same("a sign at " + at, feet.text(20), -1);
            Check.same("its place", feet.fault(1), at);
        }
    }

    private static void sevenHundredBytes() {
        Check.about("Promise 2: NONE, and none come, if it would have more than 700");
        ColdFeet feet = new ColdFeet();
        for (int k = 1; k <= 34; k++) {
            Check.same("feed " + k, feet.feed(BLANKS, BLANKS, BLANKS, BLANKS, BLANKS), 20 * k);
        }
        // "heat 1;"
        Check.same("feed 35", feet.feed(BLANKS, BLANKS, BLANKS, 0x20686561, 0x7420313b), 700);
        Check.same("feed 36", feet.feed(BLANKS, BLANKS, BLANKS, BLANKS, 0x21212121), -1);
        Check.same("feed 37", feet.feed(0, 0, 0, 0, 0), -1);
        Check.same("text(701)", feet.text(701), -2);
        Check.same("feed still", feet.feed(0, 0, 0, 0, 0), -1);
        Check.same("text(700), none came", feet.text(700), 1);
        Check.same("feed again", feet.feed(0, 0, 0, 0, 0), 20);
    }

    private static void firstBytesOfTheTape() {
        Check.about("Promise 3: The TAPE's first n bytes are the TEXT: how many LINES");
        String text = "man a 1 1 1;heat 1;  ";
        int[] lines = {0, -1, -1, -1, -1, -1, -1, -1, -1, -1, -1, -1, 1, -1, -1, -1, -1, -1, -1, 2, 2, 2};
        for (int n = 0; n < lines.length; n++) {
            ColdFeet feet = new ColdFeet();
            Check.feed(feet, text);
            Check.same("text(" + n + ")", feet.text(n), lines[n]);
        }
        Check.same("no lines", new ColdFeet().text(0), 0);
    }

    private static void tapeIsEmptyThen() {
        Check.about("Promise 3: (it is empty then)");
        int[] sizes = {0, 7, 20, 40};
        for (int n : sizes) {
            ColdFeet feet = new ColdFeet();
            Check.feed(feet, "heat 1;gust 1;risk 1;crowd 1;seed 1;     ");
            Check.same("fed", feet.feed(BLANKS, BLANKS, BLANKS, BLANKS, BLANKS), 80);
            int got = feet.text(n);
            Check.same("text(" + n + ")", got, n == 0 ? 0 : n == 7 ? 1 : n == 20 ? -1 : 5);
            Check.same("text(1) then", feet.text(1), -2);
            Check.same("feed then", feet.feed(BLANKS, BLANKS, BLANKS, BLANKS, BLANKS), 20);
        }
    }

    private static void tapeStays() {
        Check.about("Promise 3: -2, and the TAPE stays: there are not so many, n is below 0");
        ColdFeet feet = new ColdFeet();
        Check.feed(feet, "heat 1;gust 1;risk 1;");
        for (int n : new int[] {-1, 41, 42, 700, 701}) {
            Check.same("text(" + n + ")", feet.text(n), -2);
        }
        for (int n : FAR) {
            Check.same("text(" + n + ")", feet.text(n), -2);
        }
        Check.same("feed", feet.feed(BLANKS, BLANKS, BLANKS, BLANKS, BLANKS), 60);
        Check.same("text(61)", feet.text(61), -2);
        Check.same("text(60)", feet.text(60), 3);
        Check.same("text(1)", feet.text(1), -2);
    }

    private static void textOfNow() {
        Check.about("Promise 3: STEP 0, all OUTSIDE, none HELD, all LEFT, LOOKS 0, nothing SEEN, all KNOWN, no IMAGE, nothing to"
            + " undo then");
        String told = "man a 0 50 9;man b 0 50 9;man c 0 50 9;thing t 5 1 50;thing u 5 2 50;thing v 5 1 0;law after 3;"
            + "law hurt (step=3)*(rue<53)*100;";
        ColdFeet fresh = Check.of(told);
        ColdFeet used = Check.of(told);
        used.go(5);
        used.keep();
        used.pay(0, 9);
        used.hold(1, true);
        used.swap(0, 2);
        used.wet(0, 9);
        used.see(3, 1, false);
        used.strike(0);
        used.known(1);
        Check.same("told again", Check.tell(used, told), 8);
        Check.same("all", Show.all(used), Show.all(fresh));
        Check.same("no image", used.back(), -1);
        Check.same("nothing to undo", used.undo(), -1);
        Check.same("nothing seen", used.count(12), 0);
        Check.same("all known, those to come too", used.see(1, 0, false) + 10 * used.count(13), 10);
        Check.same("the same steps", used.go(4), fresh.go(4));
        Check.same("men behind them", Show.men(used), Show.men(fresh));
    }

    private static void whatsOfFault() {
        Check.about("Promise 4: what 0: its FAULT (0), 1: its place (NONE without). NONE for another what");
        ColdFeet feet = new ColdFeet();
        Check.tell(feet, "   look");
        Check.same("fault(0)", feet.fault(0), 1);
        Check.same("fault(1)", feet.fault(1), 7);
        Check.same("fault(-1)", feet.fault(-1), -1);
        Check.same("fault(2)", feet.fault(2), -1);
        for (int what : FAR) {
            Check.same("fault(" + what + ")", feet.fault(what), -1);
        }
        Check.tell(feet, "!");
        Check.same("place 0", feet.fault(1), 0);
        Check.tell(feet, " ");
        Check.same("no fault", feet.fault(0), 0);
        Check.same("no place", feet.fault(1), -1);
    }

    private static void latestText() {
        Check.about("Promise 4: Of the latest text() that was not -2");
        ColdFeet feet = new ColdFeet();
        feet.text(1);
        Check.same("of none", 100 * feet.fault(0) + feet.fault(1), -1);
        Check.tell(feet, "heat 10;");
        feet.text(-1);
        feet.text(1);
        Check.same("-2 leaves it", 100 * feet.fault(0) + feet.fault(1), 205);
        feet.text(0);
        Check.same("a text without lines", 100 * feet.fault(0) + feet.fault(1), -1);
        feet.text(1);
        Check.same("-2 leaves that too", 100 * feet.fault(0) + feet.fault(1), -1);
        Check.tell(feet, "heat 1;heat 1;");
        Check.same("3 at 7", 100 * feet.fault(0) + feet.fault(1), 307);
        Check.tell(feet, "look a 1 1;");
        Check.same("4 at 5", 100 * feet.fault(0) + feet.fault(1), 405);
    }

    private static void lettersOfNames() {
        Check.about("Promise 5: letters, 5 bits each (a is 1; the first one highest of six, 0 behind the last one)");
        ColdFeet feet = Check.of("man a 1 1 1;man z 1 1 1;man aaaaaa 1 1 1;man zzzzzz 1 1 1;man abcdef 1 1 1;man ab 1 1 1;"
            + "thing b 1 1 1;thing zzzzz 1 1 1;");
        Check.same("a", feet.named(0, 1 << 25), 0);
        Check.same("z", feet.named(0, 26 << 25), 1);
        Check.same("aaaaaa", feet.named(0, 0b00001_00001_00001_00001_00001_00001), 2);
        Check.same("zzzzzz", feet.named(0, 0b11010_11010_11010_11010_11010_11010), 3);
        Check.same("abcdef", feet.named(0, 0b00001_00010_00011_00100_00101_00110), 4);
        Check.same("ab", feet.named(0, 0b00001_00010_00000_00000_00000_00000), 5);
        Check.same("b", feet.named(1, 2 << 25), 0);
        Check.same("zzzzz", feet.named(1, 0b11010_11010_11010_11010_11010_00000), 1);
        Check.same("aa", feet.named(0, 0b00001_00001_00000_00000_00000_00000), -1);
        Check.same("aaaaa", feet.named(0, 0b00001_00001_00001_00001_00001_00000), -1);
        Check.same("abcdeg", feet.named(0, 0b00001_00010_00011_00100_00101_00111), -1);
        Check.same("a, lowest of six", feet.named(0, 1), -1);
        Check.same("a, a hole, b", feet.named(0, 0b00001_00000_00010_00000_00000_00000), -1);
        Check.same("no letters", feet.named(0, 0), -1);
        Check.same("a with bit 30", feet.named(0, 1 << 25 | 1 << 30), -1);
        Check.same("a with bit 31", feet.named(0, 1 << 25 | 1 << 31), -1);
        for (int letters : FAR) {
            Check.same("named(0, " + letters + ")", feet.named(0, letters), -1);
            Check.same("named(1, " + letters + ")", feet.named(1, letters), -1);
        }
        Check.same("a name of the text ahead", Check.tell(feet, "man b 1 1 1;"), 1);
        Check.same("is none", feet.named(0, 1 << 25), -1);
        Check.same("of things neither", feet.named(1, 2 << 25), -1);
    }

    private static void whatsOfNamed() {
        Check.about("Promise 5: The number of a MAN (what 0), a THING (1); NONE: there is none such");
        ColdFeet feet = Check.of("man a 1 1 1;thing a 1 1 1;thing b 1 1 1;");
        Check.same("named(0, a)", feet.named(0, Check.letters("a")), 0);
        Check.same("named(1, b)", feet.named(1, Check.letters("b")), 1);
        Check.same("named(0, b)", feet.named(0, Check.letters("b")), -1);
        Check.same("named(-1, a)", feet.named(-1, Check.letters("a")), -1);
        Check.same("named(2, a)", feet.named(2, Check.letters("a")), -1);
        for (int what : FAR) {
            Check.same("named(" + what + ", a)", feet.named(what, Check.letters("a")), -1);
        }
        ColdFeet all = Check.of(men(6) + things(8));
        Check.same("the last man", all.named(0, Check.letters("f")), 5);
        Check.same("the last thing", all.named(1, Check.letters("h")), 7);
    }

    // ---- promises 6 to 8

    /** 0: nothing is thrown, 1 IndexOutOfBoundsException, 2 NoSuchElementException, 3 another one. */
    private static int thrownBy(ColdFeet feet, int man, int what) {
        try {
            feet.man(man, what);
            return 0;
        } catch (RuntimeException e) {
            if (e.getClass() == IndexOutOfBoundsException.class) {
                return 1;
            }
            return e.getClass() == NoSuchElementException.class ? 2 : 3;
        }
    }

    private static void whatsOfMan() {
        Check.about("Promise 6: what 0 .. 8; NoSuchElementException: no such what");
        ColdFeet feet = Check.of("man a 10 20 3;man b 0 99 9;thing t 1 2 50;");
        int[] outside = {10, 20, 3, 0, 0, -2, 0, 0, 0};
        int[] inside = {0, 99, 9, 7, 1, 0, 1, 1, 1};
        feet.hold(0, true);
        feet.go(1);
        feet.hold(0, false);
        feet.swap(0, 1);
        Check.same("b can't go for what a goes for", feet.man(1, 4), 1);
        feet.swap(0, 1);
        feet.pay(1, 7);
        feet.hold(1, true);
        for (int what = 0; what <= 8; what++) {
            Check.same("man(0, " + what + ") throws", thrownBy(feet, 0, what), 0);
            Check.same("man(0, " + what + ")", feet.man(0, what), outside[what]);
            Check.same("man(1, " + what + ")", feet.man(1, what), inside[what]);
        }
        Check.same("man(0, -1)", thrownBy(feet, 0, -1), 2);
        Check.same("man(0, 9)", thrownBy(feet, 0, 9), 2);
        for (int what : FAR) {
            Check.same("man(1, " + what + ")", thrownBy(feet, 1, what), 2);
        }
    }

    private static void noSuchMan() {
        Check.about("Promise 6: IndexOutOfBoundsException: no such MAN");
        for (int size = 0; size <= 6; size++) {
            ColdFeet feet = Check.of(men(size));
            for (int man = -1; man <= 8; man++) {
                boolean isMan = man >= 0 && man < size;
                Check.same("man(" + man + ", 0) of " + size, thrownBy(feet, man, 0), isMan ? 0 : 1);
                Check.same("man(" + man + ", 8) of " + size, thrownBy(feet, man, 8), isMan ? 0 : 1);
                Check.same("man(" + man + ", 9) of " + size, thrownBy(feet, man, 9), isMan ? 2 : 1);
            }
            for (int man : FAR) {
                Check.same("man(" + man + ", 0)", thrownBy(feet, man, 0), 1);
            }
        }
    }

    private static void whatsOfThing() {
        Check.about("Promise 7: what 0 .. 4. NONE: no such ones");
        for (int size = 0; size <= 8; size++) {
            ColdFeet feet = Check.of(things(size));
            int[] want = {1, 1, 50, 0, -2};
            for (int thing = -1; thing <= 9; thing++) {
                for (int what = -1; what <= 6; what++) {
                    boolean isSo = thing >= 0 && thing < size && what >= 0 && what <= 4;
                    Check.same("thing(" + thing + ", " + what + ") of " + size, feet.thing(thing, what), isSo ? want[what] : -1);
                }
            }
            for (int far : FAR) {
                Check.same("thing(" + far + ", 0)", feet.thing(far, 0), -1);
                Check.same("thing(0, " + far + ")", feet.thing(0, far), -1);
            }
        }
    }

    private static void whatsOfLaw() {
        Check.about("Promise 8: what 0 dare, 1 after, 2 hurt. Long.MIN_VALUE: an ERROR, no such law, no such MAN");
        ColdFeet feet = Check.of("man a 1 1 1;man b 0 1 1;law dare 5;law after 6;law hurt 7;");
        for (int man = -1; man <= 6; man++) {
            for (int what = -1; what <= 4; what++) {
                boolean isSo = man >= 0 && man <= 1 && what >= 0 && what <= 2;
                Check.same("law(" + what + ", " + man + ")", feet.law(what, man), isSo ? 5 + what : Long.MIN_VALUE);
            }
        }
        for (int far : FAR) {
            Check.same("law(" + far + ", 0)", feet.law(far, 0), Long.MIN_VALUE);
            Check.same("law(0, " + far + ")", feet.law(0, far), Long.MIN_VALUE);
        }
        String[] rules = {"dare", "after", "hurt"};
        for (int told = 0; told < 3; told++) {
            ColdFeet one = Check.of("man a 1 1 1;man b 0 1 1;law " + rules[told] + " 8/fear;");
            for (int what = 0; what < 3; what++) {
                Check.same("law(" + what + ", 0)", one.law(what, 0), what == told ? 8 : Long.MIN_VALUE);
                Check.same("law(" + what + ", 1), an error", one.law(what, 1), Long.MIN_VALUE);
            }
        }
        Check.same("E isn't bounded by 0 .. 100", Check.of("man a 1 1 1;law hurt 101;").law(2, 0), 101);
        Check.same("nor by -9 .. 9", Check.of("man a 1 1 1;law after 0-10;").law(1, 0), -10);
    }

    // ---- promises 9 to 13

    private static void looksOfPay() {
        Check.about("Promise 9: LOOKS 1 .. 99; NONE: no such ones");
        ColdFeet feet = Check.of(men(2) + "crowd 999;");
        int[][] rows = {{-1, -1}, {0, -1}, {1, 998}, {2, 996}, {98, 898}, {99, 799}, {100, -1}, {101, -1}, {256, -1}};
        for (int[] row : rows) {
            Check.same("pay(1, " + row[0] + ")", feet.pay(1, row[0]), row[1]);
        }
        Check.same("his looks", feet.man(1, 3), 200);
        for (int far : FAR) {
            Check.same("pay(0, " + far + ")", feet.pay(0, far), -1);
            Check.same("pay(" + far + ", 1)", feet.pay(far, 1), -1);
        }
        Check.same("pay(-1, 1)", feet.pay(-1, 1), -1);
        Check.same("pay(2, 1)", feet.pay(2, 1), -1);
        Check.same("the crowd's", feet.count(9), 799);
        Check.same("what can be undone", feet.count(14), 4);
    }

    private static void crowdOfPay() {
        Check.about("Promise 9: what it has left; -2: it hasn't so many");
        int[][] rows = {{0, 1, -2}, {1, 1, 0}, {1, 2, -2}, {98, 99, -2}, {99, 99, 0}, {100, 99, 1}, {0, 0, -1}, {0, 100, -1}};
        for (int[] row : rows) {
            ColdFeet feet = Check.of(men(1) + "crowd " + row[0] + ";");
            Check.same("pay(0, " + row[1] + ") of " + row[0], feet.pay(0, row[1]), row[2]);
            Check.same("the crowd's", feet.count(9), row[2] >= 0 ? row[2] : row[0]);
            Check.same("his", feet.man(0, 3), row[2] >= 0 ? row[1] : 0);
            Check.same("what can be undone", feet.count(14), row[2] >= 0 ? 1 : 0);
            Check.same("a call's isn't refused", feet.count(11), 0);
            Check.same("no such man comes first", feet.pay(1, 99), -1);
        }
    }

    private static void menOfSwap() {
        Check.about("Promise 10: Two MEN change places in the RANK: true; false: no such ones, alike");
        ColdFeet feet = Check.of(men(3));
        for (int one = -1; one <= 6; one++) {
            for (int other = -1; other <= 6; other++) {
                boolean isSo = one >= 0 && one < 3 && other >= 0 && other < 3 && one != other;
                Check.same("swap(" + one + ", " + other + ")", feet.swap(one, other), isSo);
                if (isSo) {
                    feet.undo();
                }
            }
        }
        for (int far : FAR) {
            Check.same("swap(0, " + far + ")", feet.swap(0, far), false);
            Check.same("swap(" + far + ", 0)", feet.swap(far, 0), false);
            Check.same("swap(" + far + ", " + far + ")", feet.swap(far, far), false);
        }
        Check.same("nothing to undo", feet.count(14), 0);
        for (int man = 0; man < 3; man++) {
            Check.same("place", feet.man(man, 7), man);
        }
        ColdFeet all = Check.of(men(6));
        Check.same("the first, the last", all.swap(0, 5), true);
        int[] places = {5, 1, 2, 3, 4, 0};
        for (int man = 0; man < 6; man++) {
            Check.same("place", all.man(man, 7), places[man]);
        }
        Check.same("once more", all.swap(5, 0), true);
        Check.same("back", all.man(0, 7), 0);
    }

    private static void menOfHold() {
        Check.about("Promise 11: A MAN is HELD, or no more: true; false: no such MAN, it is so");
        ColdFeet feet = Check.of(men(2));
        Check.same("hold(0, false)", feet.hold(0, false), false);
        Check.same("hold(0, true)", feet.hold(0, true), true);
        Check.same("hold(0, true) again", feet.hold(0, true), false);
        Check.same("held", feet.man(0, 8), 1);
        Check.same("the other isn't", feet.man(1, 8), 0);
        Check.same("hold(0, false)", feet.hold(0, false), true);
        Check.same("hold(0, false) again", feet.hold(0, false), false);
        Check.same("held no more", feet.man(0, 8), 0);
        Check.same("two can be undone", feet.count(14), 2);
        for (boolean is : new boolean[] {true, false}) {
            Check.same("hold(-1)", feet.hold(-1, is), false);
            Check.same("hold(2)", feet.hold(2, is), false);
            for (int far : FAR) {
                Check.same("hold(" + far + ")", feet.hold(far, is), false);
            }
        }
        Check.same("two still", feet.count(14), 2);
    }

    private static void stepsOfWet() {
        Check.about("Promise 12: so many 1 .. 20 STEPS more; NONE: no such ones");
        ColdFeet feet = Check.of(things(2));
        int[][] rows = {{-1, -1}, {0, -1}, {1, 51}, {2, 53}, {19, 72}, {20, 92}, {21, -1}, {256, -1}};
        for (int[] row : rows) {
            Check.same("wet(1, " + row[0] + ")", feet.wet(1, row[0]), row[1]);
        }
        for (int far : FAR) {
            Check.same("wet(0, " + far + ")", feet.wet(0, far), -1);
            Check.same("wet(" + far + ", 1)", feet.wet(far, 1), -1);
        }
        Check.same("wet(-1, 1)", feet.wet(-1, 1), -1);
        Check.same("wet(2, 1)", feet.wet(2, 1), -1);
        Check.same("lasts", feet.thing(1, 2), 92);
        Check.same("the other", feet.thing(0, 2), 50);
        Check.same("four can be undone", feet.count(14), 4);
    }

    private static void mostLasts() {
        Check.about("Promise 12: LASTS 999 at most");
        ColdFeet feet = Check.of("thing t 1 1 99;");
        for (int k = 1; k <= 44; k++) {
            feet.wet(0, 20);
        }
        Check.same("wet to 979", feet.thing(0, 2), 979);
        feet.keep();
        Check.same("wet to 998", feet.wet(0, 19), 998);
        Check.same("wet to 999", feet.wet(0, 1), 999);
        feet.back();
        Check.same("wet to 999 at once", feet.wet(0, 20), 999);
        Check.same("wet beyond", feet.wet(0, 1), 999);
        Check.same("wet beyond", feet.wet(0, 20), 999);
        for (int step = 0; step < 10; step++) {
            feet.go(99);
        }
        feet.go(9);
        Check.same("step 999", feet.count(3), 999);
        Check.same("left", feet.thing(0, 3), 0);
        feet.go(1);
        Check.same("burnt in step 999", feet.thing(0, 3), 3);
    }

    private static void wetOfWhatIsNotLeft() {
        Check.about("Promise 12: NONE: it isn't LEFT");
        ColdFeet feet = Check.of("man a 0 99 1;thing t 1 2 50;thing u 1 1 1;");
        Check.same("left", feet.wet(0, 1), 51);
        feet.go(1);
        Check.same("left, a man goes for it", feet.wet(0, 1), 52);
        feet.go(1);
        Check.same("taken", feet.wet(0, 1), -1);
        Check.same("burnt", feet.wet(1, 1), -1);
        feet.go(2);
        Check.same("saved", feet.wet(0, 1), -1);
        Check.same("lasts", feet.thing(0, 2), 52);
        Check.same("nothing to undo", feet.count(14), 0);
        ColdFeet last = Check.of("thing t 1 1 0;");
        Check.same("in its last step", last.wet(0, 1), 1);
        last.go(1);
        Check.same("left", last.thing(0, 3), 0);
        Check.same("in its last step again", last.wet(0, 1), 2);
        last.go(2);
        Check.same("burnt then", last.wet(0, 1), -1);
    }

    private static void stepsOfGo() {
        Check.about("Promise 13: So many STEPS (0 .. 99) go by: which one it is; NONE, and none does: no such number");
        int[][] rows = {{-1, -1}, {0, 0}, {1, 1}, {98, 99}, {99, 198}, {100, -1}, {101, -1}, {0, 198}};
        ColdFeet feet = new ColdFeet();
        int step = 0;
        for (int[] row : rows) {
            step = row[1] >= 0 ? row[1] : step;
            Check.same("go(" + row[0] + ")", feet.go(row[0]), row[1]);
            Check.same("the step", feet.count(3), step);
            Check.same("the heat", feet.count(8), step);
        }
        for (int far : FAR) {
            Check.same("go(" + far + ")", feet.go(far), -1);
            Check.same("the step", feet.count(3), 198);
        }
    }

    private static void lastStep() {
        Check.about("Promise 13: NONE, and none does: behind 9900");
        ColdFeet feet = Check.of("heat 0;gust 100;");
        for (int k = 1; k <= 99; k++) {
            feet.go(99);
        }
        Check.same("the step", feet.count(3), 9801);
        Check.same("keep", feet.keep(), 9801);
        Check.same("go(99)", feet.go(99), 9900);
        Check.same("go(1)", feet.go(1), -1);
        Check.same("go(99)", feet.go(99), -1);
        Check.same("go(0)", feet.go(0), 9900);
        Check.same("back", feet.back(), 9801);
        Check.same("go(1)", feet.go(1), 9802);
        Check.same("go(99)", feet.go(99), -1);
        Check.same("none does", feet.count(3), 9802);
        Check.same("go(98)", feet.go(98), 9900);
        Check.same("ahead goes on", feet.ahead(1, 3), 999);
        ColdFeet dare = Check.of("man a 0 0 1;thing t 1 1 99;law dare step>=9900;");
        dare.hold(0, true);
        Check.same("man at 0", dare.law(0, 0), 0);
        for (int k = 1; k <= 100; k++) {
            dare.go(99);
        }
        Check.same("step of E at 9900", dare.law(0, 0), 1);
    }

    // ---- promises 32 to 35, ==== 4

    private static void undoesTheLatest() {
        Check.about("Promise 32: The latest is undone: how many are left; NONE: none");
        ColdFeet feet = Check.of(men(2));
        Check.same("none", feet.undo(), -1);
        feet.pay(0, 1);
        feet.pay(1, 2);
        Check.same("one is left", feet.undo(), 1);
        Check.same("it was the latest", feet.man(1, 3), 0);
        Check.same("not the first", feet.man(0, 3), 1);
        Check.same("none is left", feet.undo(), 0);
        Check.same("none", feet.undo(), -1);
        Check.same("none still", feet.undo(), -1);
        Check.same("looks", feet.man(0, 3), 0);
    }

    private static void twentyAtMost() {
        Check.about("==== 4: can be undone, the latest first (20 at most)");
        for (int deeds : new int[] {19, 20, 21, 22, 40, 41}) {
            ColdFeet feet = Check.of(men(1) + "crowd 999;");
            for (int k = 1; k <= deeds; k++) {
                feet.pay(0, k);
                Check.same("what can be undone", feet.count(14), Math.min(k, 20));
            }
            int looks = deeds * (deeds + 1) / 2;
            for (int left = Math.min(deeds, 20) - 1; left >= 0; left--) {
                Check.same("undo of " + deeds, feet.undo(), left);
                looks -= left + 1 + Math.max(0, deeds - 20);
                Check.same("looks", feet.man(0, 3), looks);
                Check.same("the crowd's", feet.count(9), 999 - looks);
            }
            Check.same("no more of " + deeds, feet.undo(), -1);
            Check.same("looks stay", feet.man(0, 3), looks);
        }
        ColdFeet full = Check.of(men(1));
        for (int k = 0; k < 21; k++) {
            full.pay(0, 1);
        }
        full.undo();
        full.hold(0, true);
        Check.same("twenty again", full.count(14), 20);
        full.hold(0, false);
        Check.same("and no more", full.count(14), 20);
        full.undo();
        Check.same("held", full.man(0, 8), 1);
    }

    /** Deeds of all kinds to all men, more than can be undone: the states ahead of the last twenty come back, one by one. */
    private static void twentyOfEachKind() {
        Check.about("==== 4: Looks, places, holding back, wetting by call can be undone, the latest first (20 at most)");
        String told = men(4) + things(3) + "crowd 999;";
        for (int deeds : new int[] {20, 21, 23, 27, 44}) {
            ColdFeet feet = Check.of(told);
            String[] states = new String[deeds + 1];
            for (int k = 0; k < deeds; k++) {
                states[k] = withoutUndo(feet);
                doOne(feet, k);
                Check.same("what can be undone", feet.count(14), Math.min(20, k + 1));
            }
            for (int left = 19; left >= 0; left--) {
                Check.same("undo", feet.undo(), left);
                Check.same("undone of " + deeds + ", left " + left, withoutUndo(feet), states[deeds - 20 + left]);
            }
            Check.same("no more", feet.undo(), -1);
            Check.same("it stays", withoutUndo(feet), states[deeds - 20]);
        }
    }

    private static String withoutUndo(ColdFeet feet) {
        return Show.state(feet).replaceFirst("undo [0-9]+", "");
    }

    private static void doOne(ColdFeet feet, int k) {
        int man = k * 7 % 4;
        switch (k * 5 % 7 % 4) {
            case 0: Check.same("pay", feet.pay(man, k + 1) >= 0, true); break;
            case 1: Check.same("swap", feet.swap(man, (man + 1 + k % 3) % 4), true); break;
            case 2: Check.same("hold", feet.hold(man, feet.man(man, 8) == 0), true); break;
            default: Check.same("wet", feet.wet(k % 3, 1 + k % 20) >= 0, true);
        }
    }

    private static void undoesEachKind() {
        Check.about("==== 4: Looks, places, holding back, wetting by call can be undone");
        ColdFeet feet = Check.of(men(3) + things(2));
        String first = Show.state(feet);
        feet.pay(2, 99);
        String paid = Show.state(feet);
        feet.swap(2, 0);
        String swapped = Show.state(feet);
        feet.hold(1, true);
        String held = Show.state(feet);
        feet.wet(1, 20);
        Check.same("four", feet.count(14), 4);
        feet.undo();
        Check.same("not wetted", Show.state(feet), held.replace("undo 4", "undo 3"));
        feet.undo();
        Check.same("not held", Show.state(feet), swapped);
        feet.undo();
        Check.same("not swapped", Show.state(feet), paid);
        feet.undo();
        Check.same("not paid", Show.state(feet), first);
        feet.hold(1, true);
        feet.hold(1, false);
        feet.undo();
        Check.same("held again", feet.man(1, 8), 1);
        feet.see(1, 0, true);
        feet.known(0);
        feet.keep();
        Check.same("seeing, knowing, keeping aren't undone", feet.count(14), 1);
    }

    private static void noStepWentBy() {
        Check.about("==== 4: if no STEP went by since");
        ColdFeet feet = Check.of(men(1));
        feet.pay(0, 1);
        feet.go(0);
        feet.go(-1);
        feet.go(100);
        feet.ahead(99, 0);
        feet.keep();
        Check.same("none went by", feet.count(14), 1);
        Check.same("undo", feet.undo(), 0);
        feet.pay(0, 2);
        feet.go(1);
        Check.same("one went by", feet.count(14), 0);
        Check.same("undo", feet.undo(), -1);
        feet.pay(0, 3);
        Check.same("since", feet.undo(), 0);
        Check.same("undo no more", feet.undo(), -1);
        Check.same("looks", feet.man(0, 3), 2);
    }

    private static void imageInPlaceOfOne() {
        Check.about("Promise 33: An IMAGE is kept (in place of one ahead): which STEP it is");
        ColdFeet feet = Check.of(men(1));
        Check.same("keep", feet.keep(), 0);
        Check.same("keep again", feet.keep(), 0);
        feet.go(3);
        feet.pay(0, 4);
        Check.same("keep", feet.keep(), 3);
        feet.go(99);
        Check.same("back", feet.back(), 3);
        Check.same("looks", feet.man(0, 3), 4);
        Check.same("the one ahead is gone", feet.back(), 3);
    }

    private static void imageOfAll() {
        Check.about("Promise 34: All (but what was SEEN) is as in the IMAGE (nothing to undo then): which STEP it is");
        String told = "man a 0 50 9;man b 0 50 9;man c 60 50 9;thing t 5 1 50;thing u 5 2 50;thing v 5 1 3;law after 3;"
            + "risk 30;gust 30;seed 1;look a 1 9;look b 2 99;";
        for (int steps : new int[] {0, 1, 2, 5}) {
            ColdFeet feet = Check.of(told);
            ColdFeet other = Check.of(told);
            for (ColdFeet one : new ColdFeet[] {feet, other}) {
                one.go(steps);
                one.pay(2, 20);
                one.swap(0, 2);
                one.hold(1, true);
                one.wet(2, 3);
            }
            Check.same("keep", feet.keep(), steps);
            feet.hold(1, false);
            feet.go(7);
            feet.pay(0, 1);
            feet.swap(1, 2);
            feet.wet(0, 5);
            Check.same("back", feet.back(), steps);
            Check.same("nothing to undo", feet.count(14), 0);
            Check.same("undo", feet.undo(), -1);
            Check.same("all", Show.state(feet), Show.state(other).replaceFirst("undo [0-9]+", "undo 0"));
            feet.go(6);
            other.go(6);
            Check.same("numbers go on alike", Show.state(feet), Show.state(other));
        }
        ColdFeet seen = Check.of(told);
        seen.see(1, 0, true);
        seen.keep();
        seen.see(2, 0, true);
        seen.strike(0);
        seen.back();
        Check.same("what was seen stays", seen.count(12), 3);
        seen.strike(2);
        Check.same("and goes on", seen.count(12), 4);
    }

    private static void noImage() {
        Check.about("Promise 34: NONE: there is none");
        ColdFeet feet = Check.of(men(1));
        feet.pay(0, 5);
        Check.same("none", feet.back(), -1);
        Check.same("all stays", feet.man(0, 3), 5);
        Check.same("what can be undone too", feet.count(14), 1);
        feet.keep();
        Check.same("one", feet.back(), 0);
        Check.same("the same once more", feet.back(), 0);
        Check.same("a text with a fault leaves it", Check.tell(feet, "!"), -1);
        Check.same("one still", feet.back(), 0);
        Check.same("a text", Check.tell(feet, men(1)), 1);
        Check.same("none then", feet.back(), -1);
    }

    private static void whatsOfCount() {
        Check.about("Promise 35: what 0 .. 14. NONE for another what");
        ColdFeet feet = Check.of("man a 0 50 9;man b 0 50 9;man c 0 50 9;thing t 5 1 50;thing u 7 1 50;thing v 9 3 50;"
            + "thing w 3 1 0;look a 0 99;look b 1 99;heat 2;law hurt (step=2)*(depth=3)*(skill-8);law dare step=0;crowd 98;");
        feet.go(2);
        int[] want = {3, 4, 14, 2, 2, 1, 0, 1, 4, 110, 12, 2, 0, 0, 0};
        for (int what = 0; what < want.length; what++) {
            Check.same("count(" + what + ")", feet.count(what), want[what]);
        }
        feet.see(1, 0, true);
        feet.see(2, 0, true);
        feet.known(1);
        feet.pay(0, 10);
        Check.same("seen", feet.count(12), 2);
        Check.same("known by", feet.count(13), 1);
        Check.same("undo", feet.count(14), 1);
        Check.same("the crowd's", feet.count(9), 100);
        Check.same("count(-1)", feet.count(-1), -1);
        Check.same("count(15)", feet.count(15), -1);
        for (int far : FAR) {
            Check.same("count(" + far + ")", feet.count(far), -1);
        }
    }
}
