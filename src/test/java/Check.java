import java.nio.charset.StandardCharsets;
import java.util.Set;
import java.util.TreeSet;

/** What all tests share: texts fed to an object, answers compared. */
final class Check {
    private static int wrong = 0;
    private static int calls = 0;
    private static int sentences = 0;
    private static String sentence = "";
    private static final Set<String> PARTS_TOLD = new TreeSet<>();

    private Check() {
    }

    /** The sentence of the document that the answers asked for from here on come from. */
    static void says(String part, String words) {
        sentence = "";
        due("the document's " + part + " says '" + words + "'", Document.says(part, words), true);
        sentence = "[" + part + ": " + words + "] ";
        sentences++;
        PARTS_TOLD.add(part);
    }

    /** Each of these parts of the document has been told by says. */
    static void told(String... parts) {
        sentence = "";
        for (String part : parts) {
            due("a test of the document's " + part, PARTS_TOLD.contains(part), true);
        }
    }

    static void due(String what, long got, long want) {
        calls++;
        if (got != want) {
            wrong++;
            if (wrong <= 50) {
                System.out.println(sentence + what + ": answered " + got + ", due is " + want);
            }
        }
    }

    static void due(String what, boolean got, boolean want) {
        due(what, got ? 1 : 0, want ? 1 : 0);
    }

    static void finish() {
        String from = sentences == 0 ? "" : " by " + sentences + " sentences of the document";
        System.out.println(calls + " answers" + from + ", " + wrong + " not as due");
        if (wrong != 0) {
            System.exit(1);
        }
    }

    static void tape(LentStairs x, String text) {
        byte[] bytes = text.getBytes(StandardCharsets.ISO_8859_1);
        x.end(0);
        for (int at = 0; at < bytes.length; at += 20) {
            int[] five = new int[5];
            for (int i = 0; i < 20; i++) {
                int octet = at + i < bytes.length ? bytes[at + i] & 255 : 32;
                five[i / 4] = (five[i / 4] << 8) | octet;
            }
            x.feed(five[0], five[1], five[2], five[3], five[4]);
        }
        due("end of " + text, x.end(bytes.length), true);
    }

    static int realm(LentStairs x, String text) {
        tape(x, text);
        return x.realm();
    }

    static LentStairs of(String text) {
        LentStairs x = new LentStairs();
        int statements = 0;
        for (int i = 0; i < text.length(); i++) {
            if (text.charAt(i) == ';') {
                statements++;
            }
        }
        due("realm of " + text, realm(x, text), statements);
        due("fault of " + text, x.fault(0), 0);
        due("place of " + text, x.fault(1), LentStairs.NONE);
        return x;
    }

    static void realmFault(String text, int fault, int place) {
        LentStairs x = new LentStairs();
        due("realm of " + text, realm(x, text), LentStairs.NONE);
        due("fault of " + text, x.fault(0), fault);
        due("place of " + text, x.fault(1), place);
        due("refused " + text, x.status(1), 1);
    }

    static long ask(LentStairs x, String text) {
        tape(x, text);
        return x.ask();
    }

    static void asks(LentStairs x, String text, long want) {
        due(text, ask(x, text), want);
        due("fault of " + text, x.fault(0), 0);
        due("place of " + text, x.fault(1), LentStairs.NONE);
    }

    static void askFault(LentStairs x, String text, int fault, int place) {
        due(text, ask(x, text), LentStairs.NOTHING);
        due("fault of " + text, x.fault(0), fault);
        due("place of " + text, x.fault(1), place);
    }
}
