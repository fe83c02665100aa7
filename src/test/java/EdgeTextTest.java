import java.util.Arrays;
import java.util.List;
import java.util.function.ToLongFunction;

/** The bounds that "Terms" and promises 1 to 5 name, a method for each sentence. */
final class EdgeTextTest {
    private static final List<String> WORDS = Arrays.asList(("man thing look crowd heat gust risk seed law dare after hurt or and not fear"
        + " rue skill looks hot depth step").split(" "));
    private static final List<String> NAMES = Arrays.asList("fear", "rue", "skill", "looks", "hot", "depth", "step");
    private static final String[] SIGNS = {"<", "<=", "=", "<>", ">=", ">", "+", "-", "*", "/"};

    public static void main(String[] args) {
        linesOfAText();
        formsOfLines();
        rules();
        lettersOfWords();
        lengthOfNames();
        wordsOfTheLanguage();
        digits();
        blanks();
        alternatives();
        oneComparison();
        notAheadOfWhat();
        partsOfE();
        numbersOfE();
        signsOfTwo();
        mostMen();
        numbersOfMen();
        mostThings();
        numbersOfThings();
        mostLooks();
        numbersOfLooks();
        numbersOfSettings();
        settingsWithout();
        nothingOfTextsAhead();
        numberedAsTheyCome();
        namesOfTheirKind();
        firstFaultAlongTheText();
        leastFaultOfAPlace();
        tokensThatAreNone();
        moreMustCome();
        mostOpen();
        mostKnots();
        whatIsAKnot();
        knotsOfAllLaws();
        toldAlready();
        notToldAhead();
        Check.end();
    }

    // ---- the form of a text

    private static void linesOfAText() {
        Check.about("A TEXT: { LINE ';' }");
        Check.lines("", 0);
        Check.lines(" \n ", 0);
        Check.lines("heat 1;", 1);
        Check.lines("heat 1;gust 1;", 2);
        Check.fault("heat 1", 1, 6);
        Check.fault("heat 1 gust 1;", 1, 7);
        Check.fault(";", 1, 0);
        Check.fault("heat 1;;", 1, 7);
    }

    private static void formsOfLines() {
        Check.about("LINE: man W N N N | thing W N N N | look W N N | crowd N | .. | law RULE E");
        String told = "man a 1 1 1;";
        String[] lines = {"man b 1 2 3", "thing b 1 2 3", "look a 1 2", "crowd 1", "heat 1", "gust 1", "risk 1", "seed 1",
            "law dare 1"};
        for (String line : lines) {
            Check.lines(told + line + ";", 2);
            int last = line.lastIndexOf(' ');
            Check.fault(told + line.substring(0, last) + ";", 1, told.length() + last);
            Check.fault(told + line + " 1;", 1, told.length() + line.length() + 1);
            Check.fault(told + line + " c;", 1, told.length() + line.length() + 1);
            int first = line.indexOf(' ');
            Check.fault(told + line.substring(0, first) + ";", 1, told.length() + first);
            Check.fault(told + line.substring(0, first) + " ;", 1, told.length() + first + 1);
        }
        for (String word : new String[] {"man", "thing", "look"}) {
            Check.fault(told + word + " 1 1 1;", 1, told.length() + word.length() + 1);
        }
        for (String word : new String[] {"crowd", "heat", "gust", "risk", "seed"}) {
            Check.fault(word + " a;", 1, word.length() + 1);
            Check.fault(word + " 1 1;", 1, word.length() + 3);
        }
    }

    private static void rules() {
        Check.about("RULE: dare | after | hurt");
        for (String word : WORDS) {
            boolean isRule = word.equals("dare") || word.equals("after") || word.equals("hurt");
            if (isRule) {
                Check.lines("law " + word + " 1;", 1);
            } else {
                Check.fault("law " + word + " 1;", 1, 4);
            }
        }
        Check.fault("law a 1;", 1, 4);
        Check.fault("law 1;", 1, 4);
    }

    private static void lettersOfWords() {
        Check.about("Words: small letters in a row");
        Check.lines("man a 1 1 1;man z 1 1 1;man az 1 1 1;", 3);
        Check.fault("man ` 1 1 1;", 1, 4);
        Check.fault("man { 1 1 1;", 1, 4);
        Check.fault("man A 1 1 1;", 1, 4);
        Check.fault("man Z 1 1 1;", 1, 4);
        Check.fault("man a` 1 1 1;", 1, 5);
        Check.fault("man z{ 1 1 1;", 1, 5);
        Check.fault("man a b 1 1 1;", 1, 6);
        Check.fault("ma n a 1 1 1;", 1, 0);
        Check.fault("man " + (char) 225 + " 1 1 1;", 1, 4);
    }

    private static void lengthOfNames() {
        Check.about("W: one of 1 .. 6 letters");
        String told = "man a 1 1 1;man zzzzzz 1 1 1;";
        for (String word : new String[] {"man ", "thing "}) {
            Check.lines(word + "b 1 1 1;", 1);
            Check.lines(word + "abcdef 1 1 1;", 1);
            Check.fault(word + "abcdefg 1 1 1;", 1, word.length());
            Check.fault(word + "a".repeat(100) + " 1 1 1;", 1, word.length());
            Check.fault(word + " 1 1 1;", 1, word.length() + 1);
        }
        Check.lines(told + "look a 1 1;", 3);
        Check.lines(told + "look zzzzzz 1 1;", 3);
        Check.fault(told + "look zzzzzzz 1 1;", 1, told.length() + 5);
        Check.fault(told + "look 1 1;", 1, told.length() + 5);
    }

    private static void wordsOfTheLanguage() {
        Check.about("W: none of those of the language");
        for (String word : WORDS) {
            Check.fault("man " + word + " 1 1 1;", 1, 4);
            Check.fault("thing " + word + " 1 1 1;", 1, 6);
            Check.fault("man a 1 1 1;look " + word + " 1 1;", 1, 17);
            Check.lines("man " + word.substring(1) + "q 1 1 1;", 1);
            if (word.length() < 6) {
                Check.lines("man " + word + "q 1 1 1;thing q" + word + " 1 1 1;", 2);
            }
            boolean isLess = WORDS.contains(word.substring(0, word.length() - 1));
            if (!isLess) {
                Check.lines("man " + word.substring(0, word.length() - 1) + " 1 1 1;", 1);
            }
        }
    }

    private static void digits() {
        Check.about("N: digits");
        for (char digit = '0'; digit <= '9'; digit++) {
            Check.lines("heat " + digit + ";", 1);
        }
        Check.fault("heat /;", 1, 5);
        Check.fault("heat :;", 1, 5);
        Check.fault("heat 1/;", 1, 6);
        Check.fault("heat 1:;", 1, 6);
        Check.fault("heat -1;", 1, 5);
        Check.fault("heat +1;", 1, 5);
        Check.fault("heat (1);", 1, 5);
        Check.fault("heat 1.0;", 1, 6);
        Check.fault("crowd 1 0;", 1, 8);
        Check.same("noughts ahead", Check.lines("crowd " + "0".repeat(300) + "7;", 1).count(9), 7);
    }

    private static void blanks() {
        Check.about("Blanks 10, 32");
        for (int sign = 0; sign < 256; sign++) {
            boolean isBlank = sign == 10 || sign == 32;
            if (isBlank) {
                Check.lines("" + (char) sign, 0);
                Check.lines((char) sign + "heat" + (char) sign + "1" + (char) sign + ";" + (char) sign, 1);
            } else {
                Check.fault("" + (char) sign, 1, 0);
                Check.fault("heat 1;" + (char) sign, 1, 7);
            }
        }
        for (int sign : new int[] {0, 9, 11, 13, 31, 33, 138, 160, 255}) {
            Check.fault("heat" + (char) sign + "1;", 1, 4);
            Check.fault("heat 1" + (char) sign + ";", 1, 6);
        }
    }

    // ---- the form of an E

    private static long worked(String formula) {
        return Check.lines("man a 11 12 3;law hurt " + formula + ";", 2).law(2, 0);
    }

    private static void wrongIn(String formula, int place) {
        Check.fault("law hurt " + formula + ";", 1, 9 + place);
    }

    private static void alternatives() {
        Check.about("E: A { or A }. A: B { and B }. S: T { ( + | - ) T }. T: P { ( * | / ) P }");
        worked("1");
        for (String sign : new String[] {" or ", " and ", "+", "-", "*", "/"}) {
            int length = sign.trim().length();
            worked("1" + sign + "1");
            worked("1" + sign + "1" + sign + "1");
            wrongIn("1" + sign, 1 + sign.length());
            wrongIn(sign.trim() + " 1", 0);
            wrongIn("1" + sign + sign.trim() + " 1", 1 + sign.length());
            wrongIn("1 " + sign.trim() + ")", 2 + length);
            Check.fault("law hurt 1" + sign, 1, 10 + sign.length());
            Check.fault("law hurt 1 " + sign.trim(), 1, 11 + length);
        }
    }

    private static void oneComparison() {
        Check.about("C: S [ ( < | <= | = | <> | >= | > ) S ]");
        for (int k = 0; k < 6; k++) {
            String sign = SIGNS[k];
            worked("1" + sign + "1");
            wrongIn("1" + sign, 1 + sign.length());
            wrongIn(sign + "1", 0);
            for (int other = 0; other < 6; other++) {
                wrongIn("1" + sign + "1" + SIGNS[other] + "1", 2 + sign.length());
                wrongIn("1" + sign + "1+2" + SIGNS[other] + "1", 4 + sign.length());
                worked("(1" + sign + "1)" + SIGNS[other] + "1");
                worked("1" + sign + "(1" + SIGNS[other] + "1)");
                worked("1" + sign + "1 and 1" + SIGNS[other] + "1");
                worked("not 1" + sign + "1 or not 1" + SIGNS[other] + "1");
            }
        }
    }

    private static void notAheadOfWhat() {
        Check.about("B: not B | C");
        worked("not 1");
        worked("not not 1");
        worked("1 and not 1 or not 1");
        worked("(not 1)+(not 1)");
        worked("not(1)");
        wrongIn("not", 3);
        wrongIn("not ", 4);
        wrongIn("1 not", 2);
        wrongIn("1 not 1", 2);
        wrongIn("(1)not 1", 3);
        wrongIn("not and 1", 4);
        for (String sign : SIGNS) {
            wrongIn("1" + sign + "not 1", 1 + sign.length());
        }
    }

    private static void partsOfE() {
        Check.about("P: N | NAME | '(' E ')'");
        for (String name : NAMES) {
            worked(name);
        }
        worked("(1)");
        worked("(1 or 1)");
        wrongIn("", 0);
        wrongIn("()", 1);
        wrongIn("(1", 2);
        wrongIn("1)", 1);
        wrongIn("(1))", 3);
        wrongIn("(1 1)", 3);
        wrongIn("1 1", 2);
        wrongIn("1 fear", 2);
        wrongIn("fear 1", 5);
        wrongIn("fear(1)", 4);
        wrongIn("1(1)", 1);
        wrongIn("(1)(1)", 3);
        for (String word : WORDS) {
            if (!NAMES.contains(word) && !word.equals("not")) {
                wrongIn(word, 0);
                wrongIn("1+" + word, 2);
            }
        }
        wrongIn("a", 0);
        wrongIn("fears", 0);
        wrongIn("fea", 0);
    }

    private static void numbersOfE() {
        Check.about("N of E 0 .. 9999");
        Check.same("0", worked("0"), 0);
        Check.same("9999", worked("9999"), 9999);
        Check.same("noughts ahead", worked("00000009999"), 9999);
        for (String number : new String[] {"10000", "99999", "2147483648", "4294967296", "18446744073709551616"}) {
            Check.fault("law dare " + number + ";", 2, 9);
            Check.fault("law dare 1+" + number + ";", 2, 11);
            Check.fault("law dare not(" + number + ");", 2, 13);
        }
    }

    private static void signsOfTwo() {
        Check.about("A = (or > behind <) right behind < or > belongs to it");
        Check.same("<= is one sign", worked("1<=1"), 1);
        Check.same(">= is one sign", worked("1>=1"), 1);
        Check.same("<> is one sign", worked("1<>1"), 0);
        Check.same("it is one knot", Check.of("law dare 1<=1;law after 1>=1;law hurt 1<>1;").count(2), 9);
        wrongIn("1< =1", 3);
        wrongIn("1> =1", 3);
        wrongIn("1< >1", 3);
        wrongIn("1<\n=1", 3);
        wrongIn("1=<1", 2);
        wrongIn("1=>1", 2);
        wrongIn("1><1", 2);
        wrongIn("1==1", 2);
        wrongIn("1<<1", 2);
        wrongIn("1>>1", 2);
        wrongIn("1<==1", 3);
        wrongIn("1>==1", 3);
        wrongIn("1<>=1", 3);
        wrongIn("1<=>1", 3);
    }

    // ---- how many there are, from where to where a number goes

    /** One number of a text: the least and the most are taken, those beside them are too much, at their place. */
    private static void number(String ahead, String behind, int least, int most, ToLongFunction<ColdFeet> shown) {
        for (int value : new int[] {least, least + 1, most - 1, most}) {
            ColdFeet feet = Check.of(ahead + value + behind);
            Check.same("fault of: " + ahead + value + behind, feet.fault(0), 0);
            Check.same("shown of: " + ahead + value + behind, shown.applyAsLong(feet), value);
            Check.of(ahead + "000" + value + behind);
        }
        if (least > 0) {
            Check.fault(ahead + (least - 1) + behind, 2, ahead.length());
        }
        Check.fault(ahead + (most + 1) + behind, 2, ahead.length());
        Check.fault(ahead + "00" + (most + 1) + behind, 2, ahead.length());
        Check.fault(ahead + (most + 1), 2, ahead.length());
        // what an int, a long would wrap around to a number that is taken
        Check.fault(ahead + ((1L << 31) + least) + behind, 2, ahead.length());
        Check.fault(ahead + ((1L << 32) + least) + behind, 2, ahead.length());
        Check.fault(ahead + "18446744073709551617" + behind, 2, ahead.length());
        Check.fault(ahead + "9".repeat(400) + behind, 2, ahead.length());
    }

    private static String men(int n) {
        StringBuilder men = new StringBuilder();
        for (int k = 0; k < n; k++) {
            men.append("man ").append((char) ('a' + k)).append(" 1 1 1;");
        }
        return men.toString();
    }

    private static String things(int n) {
        StringBuilder things = new StringBuilder();
        for (int k = 0; k < n; k++) {
            things.append("thing ").append((char) ('a' + k)).append(" 1 1 1;");
        }
        return things.toString();
    }

    private static void mostMen() {
        Check.about("MEN, at most 6; FAULT 2 a seventh man (at the word of the LINE)");
        Check.same("six men", Check.lines(men(6), 6).count(0), 6);
        String six = men(6);
        Check.fault(men(7), 2, six.length());
        Check.fault(six + "man", 2, six.length());
        Check.fault(six + " \nman ! 1 1 1;", 2, six.length() + 2);
        Check.fault(six + "man a 1 1 1;", 2, six.length());
        Check.fault(six + "heat 1;man", 2, six.length() + 7);
        Check.lines(six + things(8), 14);
    }

    private static void numbersOfMen() {
        Check.about("FEAR 0 .. 99, RUE 0 .. 99, SKILL 1 .. 9");
        number("man a ", " 5 5;", 0, 99, feet -> feet.man(0, 0));
        number("man a 5 ", " 5;", 0, 99, feet -> feet.man(0, 1));
        number("man a 5 5 ", ";", 1, 9, feet -> feet.man(0, 2));
    }

    private static void mostThings() {
        Check.about("THINGS, at most 8; FAULT 2 a ninth thing (at the word of the LINE)");
        Check.same("eight things", Check.lines(things(8), 8).count(1), 8);
        String eight = things(8);
        Check.fault(things(9), 2, eight.length());
        Check.fault(eight + "thing", 2, eight.length());
        Check.fault(eight + "\nthing 7", 2, eight.length() + 1);
        Check.fault(eight + "thing a 1 1 1;", 2, eight.length());
    }

    private static void numbersOfThings() {
        Check.about("WORTH 1 .. 99, DEPTH 1 .. 6, LASTS 0 .. 99");
        number("thing a ", " 5 5;", 1, 99, feet -> feet.thing(0, 0));
        number("thing a 5 ", " 5;", 1, 6, feet -> feet.thing(0, 1));
        number("thing a 5 5 ", ";", 0, 99, feet -> feet.thing(0, 2));
    }

    private static void mostLooks() {
        Check.about("look, at most 10; FAULT 2 an eleventh look (at the word of the LINE)");
        String ten = men(1) + "look a 0 1;".repeat(10);
        ColdFeet feet = Check.lines(ten, 11);
        feet.go(1);
        Check.same("ten are paid", feet.man(0, 3), 10);
        Check.fault(ten + "look a 0 1;", 2, ten.length());
        Check.fault(ten + "look", 2, ten.length());
        Check.fault(ten + " look b 0 1;", 2, ten.length() + 1);
    }

    /** The STEP at which the first LOOKS are paid. */
    private static long stepOfLook(ColdFeet feet) {
        for (int step = 0; step < 110; step++) {
            feet.go(1);
            if (feet.man(0, 3) > 0) {
                return step;
            }
        }
        return -1;
    }

    private static void numbersOfLooks() {
        Check.about("look: to a MAN at a STEP 0 .. 99 LOOKS 1 .. 99");
        number("man a 99 0 1;look a ", " 1;", 0, 99, EdgeTextTest::stepOfLook);
        number("man a 99 0 1;look a 0 ", ";", 1, 99, feet -> feet.go(1) == 1 ? feet.man(0, 3) : -1);
    }

    private static void numbersOfSettings() {
        Check.about("crowd 0 .. 999, heat 0 .. 9, gust, risk 0 .. 100, seed 0 .. 99999");
        number("crowd ", ";", 0, 999, feet -> feet.count(9));
        number("heat ", ";", 0, 9, feet -> feet.go(1) == 1 ? feet.count(8) : -1);
        number("risk ", ";", 0, 100, feet -> 100 - 100 * feet.comesBack(1, 0) / feet.comesBack(1, 1));
        for (int gust : new int[] {0, 1, 99, 100}) {
            Numbers numbers = new Numbers(1);
            ColdFeet feet = Check.lines("heat 0;seed 1;gust " + gust + ";", 3);
            int heat = 0;
            for (int k = 0; k < 150; k++) {
                feet.go(1);
                heat += numbers.next() < gust ? 5 : 0;
                Check.same("heat by gust " + gust, feet.count(8), heat);
            }
        }
        for (String odds : new String[] {"101", "256", "2147483648", "4294967296", "18446744073709551616"}) {
            Check.fault("gust " + odds + ";", 2, 5);
            Check.fault("risk " + odds + ";", 2, 5);
        }
        for (int seed : new int[] {0, 1, 99998, 99999}) {
            Numbers numbers = new Numbers(seed);
            ColdFeet feet = Check.lines("seed " + seed + ";gust 50;heat 0;", 3);
            int heat = 0;
            for (int k = 0; k < 40; k++) {
                feet.go(1);
                heat += numbers.next() < 50 ? 5 : 0;
                Check.same("heat by seed " + seed, feet.count(8), heat);
            }
        }
        for (String seed : new String[] {"100000", "999999", "1000000", "2147483648", "4294967296"}) {
            Check.fault("seed " + seed + ";", 2, 5);
        }
    }

    private static void settingsWithout() {
        Check.about("crowd 99 without, heat 1 without, gust, risk, seed 0 without");
        ColdFeet feet = Check.of("man a 0 0 9;thing t 1 1 50;");
        Check.same("crowd", feet.count(9), 99);
        Check.same("risk", feet.comesBack(6, 0), 1);
        feet.go(1);
        Check.same("heat, no gust", feet.count(8), 1);
        Check.same("nobody is hurt", feet.count(6), 0);
        ColdFeet told = Check.of("gust 50;heat 0;");
        ColdFeet nought = Check.of("gust 50;heat 0;seed 0;");
        for (int k = 0; k < 50; k++) {
            told.go(1);
            nought.go(1);
            Check.same("seed 0", told.count(8), nought.count(8));
        }
        ColdFeet again = Check.of("crowd 1;heat 9;gust 100;risk 100;seed 5;");
        Check.tell(again, "");
        Check.same("crowd of the next text", again.count(9), 99);
        Check.same("risk of the next text", again.comesBack(1, 0), 1);
        again.go(1);
        Check.same("heat of the next text", again.count(8), 1);
    }

    /** Several texts behind one another, so that whatever row one of them was kept in is used again. */
    private static void nothingOfTextsAhead() {
        Check.about("Promise 3: The TAPE's first n bytes are the TEXT (nothing of a TEXT or a FAULT ahead of it)");
        String full = men(6) + things(8) + "look a 0 1;".repeat(10) + "crowd 1;heat 9;gust 100;risk 100;seed 5;"
            + "law dare 1+1;law after 2+2;law hurt 3+3;";
        String[] spoilt = {"crowd 1;heat 9;gust 100;risk 100;seed 5;law dare ((1+(not 1)*2)+(!", "law hurt (((((((1+2*", full + "!",
            men(1) + "look a 0 9;look a 0 9;!"};
        ColdFeet feet = new ColdFeet();
        for (int k = 0; k < 4; k++) {
            Check.same("full", Check.tell(feet, full), 32);
            for (int what = 0; what < 3; what++) {
                Check.same("law " + what + " of full", feet.law(what, 0), 2 + 2 * what);
            }
            for (int j = 0; j <= k; j++) {
                Check.same("spoilt", Check.tell(feet, spoilt[j]), -1);
            }
            Check.same("without", Check.tell(feet, "man a 5 0 1;thing t 1 1 50;"), 2);
            for (int what = 0; what < 3; what++) {
                Check.same("law " + what, feet.law(what, 0), Long.MIN_VALUE);
            }
            Check.same("men", feet.count(0), 1);
            Check.same("things", feet.count(1), 1);
            Check.same("knots", feet.count(2), 0);
            Check.same("crowd", feet.count(9), 99);
            Check.same("risk", feet.comesBack(1, 1), 1);
            Check.same("premium without", feet.premium(0), 5);
            feet.go(2);
            Check.same("heat, gust", feet.count(8), 2);
            Check.same("looks", feet.man(0, 3), 0);
            Check.same("eight open again", Check.tell(feet, men(1) + "law dare ((((((((9-1*2))))))));"), 2);
            Check.same("9-1*2", feet.law(0, 0), 7);
            Check.same("64 knots again", Check.tell(feet, "law hurt not 1" + "+1".repeat(31) + ";"), 1);
        }
    }

    private static void numberedAsTheyCome() {
        Check.about("All numbered as they come");
        ColdFeet feet = Check.of("man z 1 1 1;thing y 1 1 9;man a 1 1 1;thing b 1 1 9;heat 0;man m 1 1 1;");
        Check.same("man z", feet.named(0, Check.letters("z")), 0);
        Check.same("man a", feet.named(0, Check.letters("a")), 1);
        Check.same("man m", feet.named(0, Check.letters("m")), 2);
        Check.same("thing y", feet.named(1, Check.letters("y")), 0);
        Check.same("thing b", feet.named(1, Check.letters("b")), 1);
    }

    private static void namesOfTheirKind() {
        Check.about("MEN, THINGS have names of their kind");
        ColdFeet feet = Check.lines("thing b 1 1 1;man a 1 1 1;thing a 1 1 1;man b 1 1 1;look b 0 1;", 5);
        Check.same("man a", feet.named(0, Check.letters("a")), 0);
        Check.same("thing a", feet.named(1, Check.letters("a")), 1);
        Check.same("man b", feet.named(0, Check.letters("b")), 1);
        Check.same("thing b", feet.named(1, Check.letters("b")), 0);
        feet.go(1);
        Check.same("the look is man b's", feet.man(1, 3), 1);
        Check.same("not man a's", feet.man(0, 3), 0);
    }

    // ---- faults

    private static void firstFaultAlongTheText() {
        Check.about("FAULTS, the first along the text");
        Check.fault("man a 100 100 0 !", 2, 6);
        Check.fault("heat 1;heat 10 !", 3, 7);
        Check.fault("look b 100 100;!", 4, 5);
        Check.fault("man a 1 1 1;man a 100 !", 3, 16);
        Check.fault("heat ! ; heat 10;", 1, 5);
        Check.fault("crowd 1000;look b 1 1;", 2, 6);
        Check.fault("law dare 1+10000+abcdefg;", 2, 11);
        Check.fault("law dare 1;law dare 10000 !", 3, 15);
    }

    private static void leastFaultOfAPlace() {
        Check.about("of one place the least");
        String full = "law dare not 1" + "+1".repeat(31);
        Check.fault(full + " 1;", 1, full.length() + 1);
        Check.fault(full + " rue;", 1, full.length() + 1);
        Check.fault(full + " not 1;", 1, full.length() + 1);
        Check.fault(full + " 10000;", 1, full.length() + 1);
        String compared = "law dare not 1<1" + "+1".repeat(30);
        Check.same("64 knots", Check.lines(compared + ";", 1).count(2), 64);
        for (int k = 0; k < 6; k++) {
            Check.fault(compared + SIGNS[k] + "1;", 1, compared.length());
        }
        String signed = "law dare 1" + "+1".repeat(31) + "+";
        Check.fault(signed + "not 1;", 1, signed.length());
        Check.fault(signed + "and 1;", 1, signed.length());
        Check.fault(signed + "*1;", 1, signed.length());
        String open = "law dare " + "(".repeat(8) + "1";
        Check.fault(open + "(", 1, open.length());
        String six = men(6);
        Check.fault("heat man", 1, 5);
        Check.fault(six + "heat man", 1, six.length() + 5);
        Check.fault("heat 1;crowd heat 1;", 1, 13);
        Check.fault("heat 1000000 1000000", 2, 5);
        Check.fault("heat 1 1000000;", 1, 7);
        Check.fault("man 1000;", 1, 4);
        Check.fault("look abcdefg 1 1;", 1, 5);
        Check.fault("look fear 1 1;", 1, 5);
    }

    private static void tokensThatAreNone() {
        Check.about("1 a TOKEN that is none (a word of more than 6 letters that is none of the language, too)");
        for (String none : new String[] {"!", "_", "\"", "'", "&", "|", "[", "]", "\\", ",", ".", "abcdefg", "thingss"}) {
            Check.fault(none, 1, 0);
            Check.fault(" " + none, 1, 1);
            Check.fault("man " + none + " 1 1 1;", 1, 4);
            Check.fault("man a " + none + " 1 1;", 1, 6);
            Check.fault("man a 1 1 1 " + none + ";", 1, 12);
            Check.fault("law " + none + " 1;", 1, 4);
            Check.fault("law dare " + none + ";", 1, 9);
            Check.fault("law dare 1 " + none + ";", 1, 11);
            Check.fault("law dare 1+(" + none + ");", 1, 12);
            Check.fault("law dare not " + none + ";", 1, 13);
        }
    }

    private static void moreMustCome() {
        Check.about("or can't stand there (the length, if more must come)");
        String[] tokens = {"man", "a", "1", "2", "3", ";", "thing", "b", "1", "2", "3", ";", "look", "a", "1", "2", ";",
            "crowd", "5", ";", "law", "dare", "not", "(", "fear", "+", "1", "<", "rue", "or", "2", "*", "3", ")", "and",
            "hot", ">=", "step", "/", "2", ";", "law", "hurt", "1", ";"};
        StringBuilder text = new StringBuilder();
        int lines = 0;
        for (String token : tokens) {
            text.append(token);
            boolean isEnd = token.equals(";");
            lines += isEnd ? 1 : 0;
            for (String blanks : new String[] {"", " ", " \n  "}) {
                if (isEnd) {
                    Check.lines(text + blanks, lines);
                } else {
                    Check.fault(text + blanks, 1, text.length() + blanks.length());
                }
            }
            text.append(' ');
        }
        ColdFeet feet = new ColdFeet();
        Check.feed(feet, "heat 1;gust 1;");
        Check.same("the length is text()'s n", feet.text(6), -1);
        Check.same("its fault", feet.fault(0), 1);
        Check.same("its place", feet.fault(1), 6);
    }

    private static void mostOpen() {
        Check.about("2 a ninth '(' open (at it)");
        String eight = "law dare " + "(".repeat(8) + "1" + ")".repeat(8);
        Check.lines(eight + ";", 1);
        Check.lines(eight + "+" + eight.substring(9) + ";", 1);
        Check.lines(eight + ";law hurt " + eight.substring(9) + ";", 2);
        Check.lines("law dare (((((((1+(1)+(1))))))));", 1);
        Check.fault("law dare " + "(".repeat(9) + "1" + ")".repeat(9) + ";", 2, 17);
        Check.fault("law dare " + "(".repeat(9), 2, 17);
        Check.fault("law dare " + "(".repeat(8), 1, 17);
        Check.fault("law dare " + "(".repeat(8) + "1+(", 2, 19);
        Check.fault("law dare " + "(".repeat(8) + "not (", 2, 21);
        Check.fault(eight + "+" + "(".repeat(9), 2, eight.length() + 9);
        Check.fault("law hurt 1;" + "law dare " + "(".repeat(9), 2, 28);
    }

    private static void mostKnots() {
        Check.about("2 a 65th KNOT of all E (at it)");
        String operand = "law dare 1" + "+1".repeat(31);
        String sign = "law dare not 1" + "+1".repeat(31);
        Check.same("63", Check.lines(operand + ";", 1).count(2), 63);
        Check.same("64", Check.lines(sign + ";", 1).count(2), 64);
        Check.fault(operand + "+1;", 2, operand.length() + 1);
        Check.fault(operand + "+(((1)));", 2, operand.length() + 4);
        for (String name : NAMES) {
            Check.fault(operand + "*" + name + ";", 2, operand.length() + 1);
        }
        for (String one : SIGNS) {
            Check.fault(sign + one + "1;", 2, sign.length());
            Check.fault(sign + one, 2, sign.length());
        }
        Check.fault(sign + " and 1;", 2, sign.length() + 1);
        Check.fault(sign + " or 1;", 2, sign.length() + 1);
        Check.fault(operand + " or not 1;", 2, operand.length() + 4);
        Check.fault(operand + " and (not 1);", 2, operand.length() + 6);
        Check.fault("law dare " + "not ".repeat(64) + "1;", 2, 9 + 4 * 64);
        Check.fault("law dare " + "not ".repeat(65) + "1;", 2, 9 + 4 * 64);
        Check.same("63 not", Check.lines("law dare " + "not ".repeat(63) + "1;", 1).count(2), 64);
    }

    private static void whatIsAKnot() {
        Check.about("KNOT of all E (N, NAMES, signs, not, and, or: one each)");
        String[] formulas = {"1", "9999", "fear", "1+1", "not 1", "1 and 1", "1 or 1", "(1)", "((1))", "1<=1", "not not 1",
            "fear+rue-skill*looks/hot"};
        int[] knots = {1, 1, 1, 3, 2, 3, 3, 1, 1, 3, 3, 9};
        for (int k = 0; k < formulas.length; k++) {
            Check.same("knots of " + formulas[k], Check.of("law dare " + formulas[k] + ";").count(2), knots[k]);
        }
        for (String sign : SIGNS) {
            Check.same("knots of 1" + sign + "1", Check.of("law dare 1" + sign + "1;").count(2), 3);
        }
        Check.same("without laws", Check.of("man a 1 2 3;heat 1;").count(2), 0);
    }

    private static void knotsOfAllLaws() {
        Check.about("a 65th KNOT of all E");
        String told = "law dare 1" + "+1".repeat(15) + ";law after 2" + "*1".repeat(15) + ";";
        Check.same("31 and 31", Check.of(told).count(2), 62);
        Check.same("and 2", Check.lines(told + "law hurt not 1;", 3).count(2), 64);
        Check.fault(told + "law hurt 1+1;", 2, told.length() + 11);
        Check.fault(told + "law hurt not not 1;", 2, told.length() + 17);
        ColdFeet feet = Check.of("man a 1 1 1;" + told + "law hurt not 1;");
        Check.same("dare", feet.law(0, 0), 16);
        Check.same("after", feet.law(1, 0), 2);
        Check.same("hurt", feet.law(2, 0), 0);
        Check.same("the next text has 64 again", Check.tell(feet, told + "law hurt not 1;"), 3);
    }

    private static void toldAlready() {
        Check.about("3 told already: a name of its kind (at W), crowd .. seed (at the word), a law of its RULE (at RULE)");
        Check.lines("man a 1 1 1;man b 1 1 1;man ab 1 1 1;man aa 1 1 1;", 4);
        Check.fault("man a 1 1 1;man b 1 1 1;man a 1 1 1;", 3, 28);
        Check.fault("man a 1 1 1;man b 1 1 1;man  b", 3, 29);
        Check.fault("thing a 1 1 1;thing b 1 1 1;thing b 1 1 1;", 3, 34);
        Check.fault("man abcdef 1 1 1;man abcdef 1 1 1;", 3, 21);
        Check.lines("man abcdef 1 1 1;man abcdee 1 1 1;man abcde 1 1 1;man bbcdef 1 1 1;", 4);
        for (String word : new String[] {"crowd", "heat", "gust", "risk", "seed"}) {
            Check.lines(word + " 1;", 1);
            Check.fault(word + " 1; " + word + " 1;", 3, word.length() + 4);
            Check.fault(word + " 0;" + word, 3, word.length() + 3);
            Check.fault(word + " 0;man a 1 1 1;" + word + " !", 3, word.length() + 15);
        }
        for (String rule : new String[] {"dare", "after", "hurt"}) {
            Check.fault("law " + rule + " 1;law  " + rule + " 1;", 3, rule.length() + 12);
            Check.fault("law " + rule + " 1;law " + rule, 3, rule.length() + 11);
        }
        Check.lines("crowd 1;heat 1;gust 1;risk 1;seed 1;law dare 1;law after 1;law hurt 1;", 8);
        ColdFeet feet = new ColdFeet();
        for (int k = 0; k < 2; k++) {
            Check.same("told anew", Check.tell(feet, "man a 1 1 1;thing a 1 1 1;heat 1;law dare 1;"), 4);
        }
        Check.same("a fault of it", Check.tell(feet, "man a 1 1 1;heat 1;law dare 1;!"), -1);
        Check.same("told anew behind a fault", Check.tell(feet, "man a 1 1 1;thing a 1 1 1;heat 1;law dare 1;"), 4);
    }

    private static void notToldAhead() {
        Check.about("4 a MAN that isn't told ahead (at W)");
        Check.lines("man a 1 1 1;look a 1 1;", 2);
        Check.fault("look a 1 1;man a 1 1 1;", 4, 5);
        Check.fault("look  a", 4, 6);
        Check.fault("man a 1 1 1;look b 1 1;man b 1 1 1;", 4, 17);
        Check.fault("thing a 1 1 1;look a 1 1;", 4, 19);
        Check.fault("man abcdef 1 1 1;look abcde 1 1;", 4, 22);
        Check.fault("man abcde 1 1 1;look abcdef 1 1;", 4, 21);
        ColdFeet feet = Check.of("man a 1 1 1;man b 1 1 1;");
        Check.same("men of the text ahead don't count", Check.tell(feet, "man b 1 1 1;look a 1 1;"), -1);
        Check.same("its fault", feet.fault(0), 4);
    }
}
