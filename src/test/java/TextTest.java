/** Promises 1 to 5: a new object, feed, text, fault, named. */
final class TextTest {
    public static void main(String[] args) {
        newObject();
        tape();
        textStays();
        textBegins();
        placesOfTokens();
        tooMuch();
        toldAlready();
        formulas();
        knots();
        names();
        Check.end();
    }

    private static void newObject() {
        ColdFeet feet = new ColdFeet();
        int[] counts = {0, 0, 0, 0, 0, 0, 0, 0, 0, 99, 0, 0, 0, 0, 0};
        for (int what = 0; what < counts.length; what++) {
            Check.same("new count(" + what + ")", feet.count(what), counts[what]);
        }
        Check.same("new text(1)", feet.text(1), -2);
        Check.same("new fault(0)", feet.fault(0), 0);
        Check.same("new fault(1)", feet.fault(1), -1);
        Check.same("fault(2)", feet.fault(2), -1);
        Check.same("fault(-1)", feet.fault(-1), -1);
        Check.same("new text(0)", feet.text(0), 0);
    }

    private static void tape() {
        ColdFeet feet = new ColdFeet();
        for (int k = 1; k <= 35; k++) {
            Check.same("feed " + k, feet.feed(0x20202020, 0x20202020, 0x20202020, 0x20202020, 0x20202020), 20 * k);
        }
        Check.same("feed beyond 700", feet.feed(0, 0, 0, 0, 0), -1);
        Check.same("text(701)", feet.text(701), -2);
        Check.same("text(700)", feet.text(700), 0);
        Check.same("text(1) on the empty tape", feet.text(1), -2);
        for (int k = 1; k <= 35; k++) {
            feet.feed(0x28282828, 0x28282828, 0x28282828, 0x28282828, 0x28282828);
        }
        Check.same("a text of 700 tokens", feet.text(700), -1);
        Check.same("its fault's place", feet.fault(1), 0);
        Check.same("feed on the empty tape", feet.feed(-1, 0, 0, 0, 0), 20);
        Check.same("text of byte 255", feet.text(1), -1);
        Check.same("its fault", feet.fault(0), 1);
        Check.same("its place", feet.fault(1), 0);
        Check.feed(feet, "man a 1 2 3;man b 4 5 6;");
        Check.same("only the first bytes", feet.text(12), 1);
        Check.same("one man", feet.count(0), 1);
        Check.same("the rest is gone", feet.text(1), -2);
        Check.feed(feet, "heat 2;");
        Check.same("text(-1)", feet.text(-1), -2);
        Check.same("the tape stays with -2", feet.text(7), 1);
    }

    private static void textStays() {
        ColdFeet feet = Check.of("man a 9 9 9;thing t 5 1 50;");
        feet.pay(0, 5);
        feet.see(3, 0, true);
        feet.keep();
        Check.same("a bad text", Check.tell(feet, "man b 1 1 1;!"), -1);
        Check.same("men stay", feet.count(0), 1);
        Check.same("looks stay", feet.man(0, 3), 5);
        Check.same("seen stays", feet.count(12), 1);
        Check.same("undo stays", feet.count(14), 1);
        Check.same("names stay", feet.named(0, Check.letters("a")), 0);
        Check.same("image stays", feet.back(), 0);
        Check.same("fault(0)", feet.fault(0), 1);
        Check.same("-2 leaves the fault", feet.text(9), -2);
        Check.same("fault(1)", feet.fault(1), 12);
        Check.same("a good text", Check.tell(feet, "man b 1 1 1;"), 1);
        Check.same("no fault", feet.fault(0), 0);
        Check.same("no place", feet.fault(1), -1);
    }

    private static void textBegins() {
        ColdFeet feet = Check.of("man a 0 50 9;man b 99 0 9;thing t 5 1 50;thing u 5 1 2;look a 0 5;look b 1 99;risk 0;");
        feet.go(9);
        feet.keep();
        feet.hold(1, true);
        feet.swap(0, 1);
        feet.see(3, 0, true);
        feet.known(0);
        Check.same("told again", Check.tell(feet, "man a 0 50 9;man b 99 0 9;thing t 5 1 50;thing u 5 1 2;"), 4);
        int[] counts = {2, 2, 0, 0, 0, 0, 0, 0, 0, 99, 0, 0, 0, 0, 0};
        for (int what = 0; what < counts.length; what++) {
            Check.same("count(" + what + ") of a new text", feet.count(what), counts[what]);
        }
        int[] man = {0, 50, 9, 0, 0, -2, 0, 0, 0};
        int[] other = {99, 0, 9, 0, 0, -2, 0, 1, 0};
        for (int what = 0; what < man.length; what++) {
            Check.same("man(0, " + what + ")", feet.man(0, what), man[what]);
            Check.same("man(1, " + what + ")", feet.man(1, what), other[what]);
        }
        Check.same("no image", feet.back(), -1);
        Check.same("nothing to undo", feet.undo(), -1);
        feet.see(1, 0, true);
        Check.same("all known, also those to come", feet.count(13), 1);
    }

    private static void placesOfTokens() {
        Check.fault("man", 1, 3);
        Check.fault("man  ", 1, 5);
        Check.fault("man a 1 1 1", 1, 11);
        Check.fault("man a 1 1 1 1;", 1, 12);
        Check.fault("man 1 1 1;", 1, 4);
        Check.fault("man look 1 1 1;", 1, 4);
        Check.fault("man abcdefg 1 1 1;", 1, 4);
        Check.fault("abcdefg", 1, 0);
        Check.fault("manman", 1, 0);
        Check.fault(";", 1, 0);
        Check.fault(" heat 1;;", 1, 8);
        Check.fault("7;", 1, 0);
        Check.fault("heat -1;", 1, 5);
        Check.fault("heat a;", 1, 5);
        Check.fault("Man a 1 1 1;", 1, 0);
        Check.fault("heat\t1;", 1, 4);
        Check.fault("fear 1;", 1, 0);
        Check.fault("law fear 1;", 1, 4);
        Check.fault("law 1;", 1, 4);
        Check.fault("law dare", 1, 8);
        Check.fault("look a 1 1;", 4, 5);
        Check.fault("thing a 1 1 1;look a 1 1;", 4, 19);
        Check.fault("look man 1 1;", 1, 5);
        ColdFeet feet = new ColdFeet();
        Check.same("a dense text", Check.tell(feet, "man\nabcdef007 1 1;thing abcdef1 1 1;look abcdef0 1;"), 3);
        Check.same("leading noughts", feet.man(0, 0), 7);
    }

    private static void tooMuch() {
        Check.fault("man a 100 1 1;", 2, 6);
        Check.fault("man a 1 100 1;", 2, 8);
        Check.fault("man a 1 1 0;", 2, 10);
        Check.fault("man a 1 1 10;", 2, 10);
        Check.fault("man a 99999999999999999999 1 1;", 2, 6);
        Check.fault("thing a 100 1 1;", 2, 8);
        Check.fault("thing a 1 0 1;", 2, 10);
        Check.fault("thing a 1 7 1;", 2, 10);
        Check.fault("thing a 1 1 100;", 2, 12);
        Check.fault("man a 1 1 1;look a 100 1;", 2, 19);
        Check.fault("man a 1 1 1;look a 0 100;", 2, 21);
        Check.fault("man a 1 1 1;look a 0 0;", 2, 21);
        Check.fault("crowd 1000;", 2, 6);
        Check.fault("heat 10;", 2, 5);
        Check.fault("gust 101;", 2, 5);
        Check.fault("risk 101;", 2, 5);
        Check.fault("seed 100000;", 2, 5);
        Check.of("man a 99 99 9;man b 0 0 1;thing a 99 6 99;thing b 1 1 0;look a 99 99;look b 0 1;"
            + "crowd 999;heat 9;gust 100;risk 100;seed 99999;");
        Check.of("crowd 0;heat 0;gust 0;risk 0;seed 0;");
        StringBuilder men = new StringBuilder();
        for (char name = 'a'; name <= 'f'; name++) {
            men.append("man ").append(name).append(" 1 1 1;");
        }
        Check.same("six men", Check.of(men.toString()).count(0), 6);
        Check.fault(men + "man", 2, men.length());
        StringBuilder things = new StringBuilder();
        for (char name = 'a'; name <= 'h'; name++) {
            things.append("thing ").append(name).append(" 1 1 1;");
        }
        Check.same("eight things", Check.of(things.toString()).count(1), 8);
        Check.fault(things + " thing a 1 1 1;", 2, things.length() + 1);
        StringBuilder looks = new StringBuilder("man a 1 1 1;");
        for (int k = 0; k < 10; k++) {
            looks.append("look a 1 1;");
        }
        Check.of(looks.toString());
        Check.fault(looks + "look b 1 1;", 2, looks.length());
    }

    private static void toldAlready() {
        Check.fault("man a 1 1 1;man a", 3, 16);
        Check.fault("thing a 1 1 1;thing a 1 1 1;", 3, 20);
        Check.of("man a 1 1 1;thing a 1 1 1;");
        for (String word : new String[] {"crowd", "heat", "gust", "risk", "seed"}) {
            Check.fault(word + " 1;" + word + " 1;", 3, word.length() + 3);
        }
        for (String rule : new String[] {"dare", "after", "hurt"}) {
            Check.fault("law " + rule + " 1;law " + rule + " 1;", 3, rule.length() + 11);
        }
        Check.of("law dare 1;law after 1;law hurt 1;");
    }

    private static void formulas() {
        Check.fault("law dare ;", 1, 9);
        Check.fault("law dare 1 2;", 1, 11);
        Check.fault("law dare 1+;", 1, 11);
        Check.fault("law dare -1;", 1, 9);
        Check.fault("law dare 1<2<3;", 1, 12);
        Check.fault("law dare 1< =2;", 1, 12);
        Check.fault("law dare 1=<2;", 1, 11);
        Check.fault("law dare 1><2;", 1, 11);
        Check.fault("law dare 1<==2;", 1, 12);
        Check.fault("law dare 1+not 2;", 1, 11);
        Check.fault("law dare 1<not 2;", 1, 11);
        Check.fault("law dare 1 not 2;", 1, 11);
        Check.fault("law dare not;", 1, 12);
        Check.fault("law dare (1;", 1, 11);
        Check.fault("law dare 1);", 1, 10);
        Check.fault("law dare ();", 1, 10);
        Check.fault("law dare (1", 1, 11);
        Check.fault("law dare man;", 1, 9);
        Check.fault("law dare foo;", 1, 9);
        Check.fault("law dare 1 foo;", 1, 11);
        Check.fault("law dare 10000;", 2, 9);
        Check.of("law dare 9999;");
        Check.of("law dare ((((((((1))))))))+((((((((1))))))));");
        Check.fault("law dare (((((((((1)))))))));", 2, 17);
        Check.of("law dare not not(1<2)<(3>4)and not 5 or(not 6);");
    }

    private static void knots() {
        StringBuilder most = new StringBuilder("law dare not 1");
        for (int k = 0; k < 29; k++) {
            most.append("+(1)");
        }
        most.append(";law hurt fear<=2;");
        Check.same("63 knots", Check.of(most.toString()).count(2), 63);
        Check.same("64 knots", Check.of(most + "law after 1;").count(2), 64);
        Check.fault(most + "law after 1+1;", 2, most.length() + 11);
        Check.fault(most + "law after not 1;", 2, most.length() + 14);
        Check.fault(most + "law after 1 rue;", 1, most.length() + 12);
        Check.fault(most + "law after 1 not;", 1, most.length() + 12);
    }

    private static void names() {
        ColdFeet feet = Check.of("man a 1 1 1;man zebras 1 1 1;thing zebra 1 1 1;thing a 1 1 1;");
        Check.same("named(0, a)", feet.named(0, 1 << 25), 0);
        Check.same("named(0, zebras)", feet.named(0, Check.letters("zebras")), 1);
        Check.same("named(1, zebra)", feet.named(1, Check.letters("zebra")), 0);
        Check.same("named(1, a)", feet.named(1, Check.letters("a")), 1);
        Check.same("named(0, zebra)", feet.named(0, Check.letters("zebra")), -1);
        Check.same("named(0, 0)", feet.named(0, 0), -1);
        Check.same("named(0, 1)", feet.named(0, 1), -1);
        Check.same("named(0, a with bits above)", feet.named(0, 1 << 25 | 1 << 30), -1);
        Check.same("named(2, a)", feet.named(2, 1 << 25), -1);
        Check.same("named(-1, a)", feet.named(-1, 1 << 25), -1);
    }
}
