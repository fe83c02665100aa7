import java.nio.charset.StandardCharsets;

/** Counts what is not as due, and tells texts to objects. */
final class Check {
    private static int checks = 0;
    private static int wrong = 0;
    /** The sentence of the document that is tested, so that a failure names it. */
    private static String sentence = "";

    private Check() {
    }

    static void about(String sentenceOfDocument) {
        sentence = "[" + sentenceOfDocument + "] ";
    }

    static void same(String what, long got, long want) {
        checks++;
        if (got != want) {
            wrong++;
            System.out.println(sentence + what + " answered " + got + ", due is " + want);
        }
    }

    static void same(String what, boolean got, boolean want) {
        same(what, got ? 1 : 0, want ? 1 : 0);
    }

    static void same(String what, String got, String want) {
        checks++;
        if (!got.equals(want)) {
            wrong++;
            System.out.println(sentence + what + " is\n  " + got + "\ndue is\n  " + want);
        }
    }

    static void end() {
        System.out.println(checks + " checks, " + wrong + " wrong");
        if (wrong != 0) {
            System.exit(1);
        }
    }

    /** Feeds a text, padded by blanks to twenties: its length. */
    static int feed(ColdFeet feet, String text) {
        byte[] bytes = text.getBytes(StandardCharsets.ISO_8859_1);
        for (int at = 0; at < bytes.length; at += 20) {
            feet.feed(four(bytes, at), four(bytes, at + 4), four(bytes, at + 8), four(bytes, at + 12),
                four(bytes, at + 16));
        }
        return bytes.length;
    }

    static int four(byte[] bytes, int at) {
        int four = 0;
        for (int k = at; k < at + 4; k++) {
            four = four << 8 | (k < bytes.length ? bytes[k] & 255 : 32);
        }
        return four;
    }

    static int tell(ColdFeet feet, String text) {
        return feet.text(feed(feet, text));
    }

    /** A new object with a text that has no fault. */
    static ColdFeet of(String text) {
        ColdFeet feet = new ColdFeet();
        if (tell(feet, text) < 0) {
            same("fault " + feet.fault(0) + " at " + feet.fault(1) + " of: " + text, 1, 0);
        }
        return feet;
    }

    /** A text is taken: how many LINES it has, and no fault. */
    static ColdFeet lines(String text, int lines) {
        ColdFeet feet = new ColdFeet();
        same("text of: " + text, tell(feet, text), lines);
        same("fault(0) of: " + text, feet.fault(0), 0);
        same("fault(1) of: " + text, feet.fault(1), ColdFeet.NONE);
        return feet;
    }

    static void fault(String text, int kind, int place) {
        ColdFeet feet = new ColdFeet();
        same("text of: " + text, tell(feet, text), ColdFeet.NONE);
        same("fault(0) of: " + text, feet.fault(0), kind);
        same("fault(1) of: " + text, feet.fault(1), place);
    }

    static int letters(String name) {
        int letters = 0;
        for (int k = 0; k < 6; k++) {
            letters = letters << 5 | (k < name.length() ? name.charAt(k) - 'a' + 1 : 0);
        }
        return letters;
    }
}
