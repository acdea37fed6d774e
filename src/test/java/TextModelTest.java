import java.util.ArrayDeque;
import java.util.ArrayList;
import java.util.Deque;
import java.util.HashMap;
import java.util.HashSet;
import java.util.List;
import java.util.Map;
import java.util.Random;
import java.util.Set;
import java.util.regex.Matcher;
import java.util.regex.Pattern;

/** Random texts, whole and spoilt, beside slow readers that work by tables: FAULTS and their places. */
public final class TextModelTest {
    private static final int NONE = LentStairs.NONE;
    private static final Pattern PIECE = Pattern.compile("([a-z]+)|([0-9]+)|([^\\n ])", Pattern.DOTALL);
    private static final List<String> OWN = List.of("tower", "steps", "wood", "costs", "gap", "of", "guard", "legs", "rope",
            "loan", "to", "days", "rent", "bends", "enemy", "odds");
    /** Words as they stand; + a NAME to be given, @ a TOWER's, ! another TOWER's, lo-hi a number, # a STEP. */
    private static final Map<String, String> FORMS = new HashMap<>();
    private static final Map<String, Integer> MOST = Map.of("tower", 4, "gap", 20, "guard", 8, "loan", 12);

    static {
        FORMS.put("tower", "+ steps 3-14");
        FORMS.put("wood", "@ costs 0-99");
        FORMS.put("gap", "# of @");
        FORMS.put("guard", "+ of @ legs 1-6 rope 0-6");
        FORMS.put("loan", "# of @ to ! days 1-99 rent 0-99");
        FORMS.put("bends", "1-99");
        FORMS.put("enemy", "1-6 odds 1-99");
    }

    private record Piece(String text, int start, boolean glued) {
        boolean isWord() {
            return !glued && !text.isEmpty() && text.charAt(0) >= 'a' && text.charAt(0) <= 'z';
        }

        boolean isNumber() {
            return !glued && !text.isEmpty() && text.charAt(0) >= '0' && text.charAt(0) <= '9';
        }

        boolean is(String other) {
            return !glued && text.equals(other);
        }
    }

    /** What a reader found: a FAULT and its place. */
    private static final class Found extends RuntimeException {
        private static final long serialVersionUID = 1L;
        private final int fault;
        private final int place;

        Found(int fault, int place) {
            super(null, null, false, false);
            this.fault = fault;
            this.place = place;
        }
    }

    public static void main(String[] args) {
        int[] faults = new int[6];
        for (int seed = 0; seed < 30000; seed++) {
            Random random = new Random(seed);
            faults[compareRealm(spoil(random, realmText(random)))]++;
        }
        for (int fault : new int[] {0, 1, 2, 3, 5}) {
            Check.due("REALMS with FAULT " + fault + " were met", faults[fault] >= 300, true);
        }
        int[] asked = new int[6];
        for (int seed = 0; seed < 30000; seed++) {
            Random random = new Random(seed);
            String question = List.of("first ", "last ", "often ").get(random.nextInt(3)) + test(random, 0);
            if (random.nextInt(3) == 0) {
                question = List.of("total ", "most ", "least ").get(random.nextInt(3)) + sum(random, 0);
            }
            asked[compareQuestion(spoil(random, question))]++;
        }
        for (int fault : new int[] {0, 1, 4}) {
            Check.due("QUESTIONS with FAULT " + fault + " were met", asked[fault] >= 300, true);
        }
        Check.finish();
    }

    private static int compareRealm(String text) {
        if (text.length() > 1600) {
            return compareRealm(text.substring(0, 1600));
        }
        LentStairs x = new LentStairs();
        int got = Check.realm(x, text);
        int fault = 0;
        int place = NONE;
        int count = NONE;
        try {
            count = readRealm(text);
        } catch (Found found) {
            fault = found.fault;
            place = found.place;
        }
        Check.due("realm of " + text, got, count);
        Check.due("fault of " + text, x.fault(0), fault);
        Check.due("place of " + text, x.fault(1), place);
        return fault;
    }

    private static int compareQuestion(String text) {
        if (text.length() > 1600) {
            return compareQuestion(text.substring(0, 1600));
        }
        LentStairs x = new LentStairs();
        long got = Check.ask(x, text);
        int fault = 0;
        int place = NONE;
        try {
            readQuestion(text);
        } catch (Found found) {
            fault = found.fault;
            place = found.place;
        }
        Check.due("NOTHING of " + text, got == LentStairs.NOTHING, fault != 0);
        Check.due("fault of " + text, x.fault(0), fault);
        Check.due("place of " + text, x.fault(1), place);
        return fault;
    }

    private static List<Piece> pieces(String text) {
        List<Piece> pieces = new ArrayList<>();
        Matcher matcher = PIECE.matcher(text);
        int end = -1;
        boolean sticky = false;
        while (matcher.find()) {
            boolean sticks = matcher.group(3) == null;
            pieces.add(new Piece(matcher.group(), matcher.start(), sticky && sticks && matcher.start() == end));
            end = matcher.end();
            sticky = sticks;
        }
        pieces.add(new Piece("", text.length(), false));
        return pieces;
    }

    private static int readRealm(String text) {
        List<Piece> pieces = pieces(text);
        Map<String, Integer> heights = new HashMap<>();
        Set<String> names = new HashSet<>();
        Set<String> taken = new HashSet<>();
        Set<Integer> enemies = new HashSet<>();
        Map<String, Integer> counts = new HashMap<>();
        int at = 0;
        int statements = 0;
        while (!pieces.get(at).text.isEmpty()) {
            Piece head = pieces.get(at++);
            if (statements == 70) {
                throw new Found(5, head.start);
            }
            if (head.glued || !FORMS.containsKey(head.text)) {
                throw new Found(1, head.start);
            }
            if (counts.merge(head.text, 1, Integer::sum) > MOST.getOrDefault(head.text, 999)) {
                throw new Found(5, head.start);
            }
            String given = "";
            String tower = "";
            int step = 0;
            int number = 0;
            for (String part : FORMS.get(head.text).split(" ")) {
                Piece piece = pieces.get(at++);
                if (part.equals("+")) {
                    given = name(piece);
                    if (!names.add(given)) {
                        throw new Found(3, piece.start);
                    }
                } else if (part.equals("@") || part.equals("!")) {
                    String other = name(piece);
                    if (!heights.containsKey(other) || part.equals("!") && other.equals(tower)) {
                        throw new Found(3, piece.start);
                    }
                    if (step != 0 && part.equals("@")) {
                        int most = heights.get(other) - (head.text.equals("gap") ? 1 : 0);
                        if (step > most || !taken.add(other + step)) {
                            throw new Found(2, piece.start);
                        }
                    }
                    tower = other;
                } else if (part.equals("#")) {
                    step = number(piece, 1, 14);
                } else if (part.indexOf('-') > 0) {
                    String[] ends = part.split("-");
                    number = number(piece, Integer.parseInt(ends[0]), Integer.parseInt(ends[1]));
                    if (part.equals("1-6") && head.text.equals("enemy") && !enemies.add(number)) {
                        throw new Found(2, piece.start);
                    }
                } else if (!piece.is(part)) {
                    throw new Found(1, piece.start);
                }
            }
            if (head.text.equals("tower")) {
                heights.put(given, number);
            }
            if (!pieces.get(at).is(";")) {
                throw new Found(1, pieces.get(at).start);
            }
            at++;
            statements++;
        }
        return statements;
    }

    private static String name(Piece piece) {
        if (!piece.isWord() || OWN.contains(piece.text)) {
            throw new Found(1, piece.start);
        }
        if (piece.text.length() > 6) {
            throw new Found(1, piece.start + 6);
        }
        return piece.text;
    }

    private static int number(Piece piece, int least, int most) {
        if (!piece.isNumber()) {
            throw new Found(1, piece.start);
        }
        if (piece.text.length() > 4) {
            throw new Found(1, piece.start + 4);
        }
        int number = Integer.parseInt(piece.text);
        if (number < least || number > most) {
            throw new Found(2, piece.start);
        }
        return number;
    }

    /** A stack of what must come: kinds in capitals, signs and words as they stand, "." where one that was open ends. */
    private static void readQuestion(String text) {
        List<Piece> pieces = pieces(text);
        Deque<String> due = new ArrayDeque<>();
        Piece verb = pieces.get(0);
        if (List.of("first", "last", "often").contains(verb.text)) {
            due.push("TEST");
        } else if (List.of("total", "most", "least").contains(verb.text)) {
            due.push("SUM");
        } else {
            throw new Found(1, verb.start);
        }
        int at = 1;
        int open = 0;
        while (!due.isEmpty()) {
            String next = due.pop();
            Piece piece = pieces.get(at);
            if (next.equals(".")) {
                open--;
                continue;
            }
            String row = rowFor(next, piece);
            if (row == null) {
                throw new Found(1, piece.start + (next.equals("PART") && piece.isNumber() ? 4 : 0));
            }
            if (row.startsWith("~")) {
                at++;
                if (List.of("(", "[", "not", "purse", "stands", "reach").contains(piece.text)) {
                    open++;
                    if (open > 6) {
                        throw new Found(4, piece.start);
                    }
                }
                row = row.substring(1);
            }
            String[] parts = row.trim().split(" ");
            for (int i = parts.length - 1; i >= 0; i--) {
                if (!parts[i].isEmpty()) {
                    due.push(parts[i]);
                }
            }
        }
        if (!pieces.get(at).text.isEmpty()) {
            throw new Found(1, pieces.get(at).start);
        }
    }

    /** What stands for one that is due, ahead of this piece; with ~ the piece is taken; null: none. */
    private static String rowFor(String next, Piece piece) {
        String here = piece.glued ? "" : piece.text;
        switch (next) {
            case "TEST": return "BOTH ORS";
            case "ORS": return here.equals("or") ? "~BOTH ORS" : "";
            case "BOTH": return "FACT ANDS";
            case "ANDS": return here.equals("and") ? "~FACT ANDS" : "";
            case "FACT":
                switch (here) {
                    case "not": return "~FACT .";
                    case "[": return "~TEST ] .";
                    case "all": return "~";
                    default: return "SUM SIGN SUM";
                }
            case "SIGN": return List.of("<", ">", "=").contains(here) ? "~" : null;
            case "SUM": return "PRODUCT PLUS";
            case "PLUS": return here.equals("+") || here.equals("-") ? "~PRODUCT PLUS" : "";
            case "PRODUCT": return "PART TIMES";
            case "TIMES": return here.equals("*") || here.equals("/") ? "~PART TIMES" : "";
            case "PART":
                switch (here) {
                    case "day":
                    case "held":
                    case "lent":
                    case "bent":
                    case "yard": return "~";
                    case "purse":
                    case "stands":
                    case "reach": return "~PART .";
                    case "(": return "~SUM ) .";
                    case "min":
                    case "max": return "~( SUM , SUM ) .";
                    default: return piece.isNumber() && here.length() <= 4 ? "~" : null;
                }
            default: return here.equals(next) ? "~" : null;
        }
    }

    private static String realmText(Random random) {
        StringBuilder text = new StringBuilder();
        int towers = 1 + random.nextInt(random.nextInt(8) == 0 ? 5 : 4);
        for (int t = 0; t < towers; t++) {
            text.append("tower ").append((char) ('a' + t)).append(" steps ").append(3 + random.nextInt(12)).append(';');
        }
        int more = random.nextInt(random.nextInt(6) == 0 ? 80 : 20);
        boolean often = random.nextInt(3) == 0;
        for (int i = 0; i < more; i++) {
            char a = (char) ('a' + random.nextInt(towers));
            char b = (char) ('a' + random.nextInt(towers));
            int step = 1 + random.nextInt(14);
            switch (often ? random.nextInt(3) : random.nextInt(7)) {
                case 0: text.append("bends ").append(1 + random.nextInt(99)); break;
                case 1: text.append("wood ").append(a).append(" costs ").append(random.nextInt(100)); break;
                case 2: text.append("bends 7"); break;
                case 3: text.append("gap ").append(step).append(" of ").append(a); break;
                case 4: text.append("enemy ").append(1 + random.nextInt(6)).append(" odds ").append(1 + random.nextInt(99)); break;
                case 5: text.append("guard g").append((char) ('a' + random.nextInt(26))).append(" of ").append(a)
                        .append(" legs ").append(1 + random.nextInt(6)).append(" rope ").append(random.nextInt(7)); break;
                default: text.append("loan ").append(step).append(" of ").append(a).append(" to ").append(b).append(" days ")
                        .append(1 + random.nextInt(99)).append(" rent ").append(random.nextInt(100)); break;
            }
            text.append(random.nextInt(5) == 0 ? " ;\n" : ";");
        }
        return text.toString();
    }

    private static String test(Random random, int depth) {
        int kind = random.nextInt(depth > 7 ? 2 : 7);
        switch (kind) {
            case 0: return "all";
            case 1:
            case 2: return sum(random, depth + 1) + "<>=".charAt(random.nextInt(3)) + sum(random, depth + 1);
            case 3: return "not " + test(random, depth + 1);
            case 4: return "[" + test(random, depth + 1) + "]";
            case 5: return test(random, depth + 2) + " and " + test(random, depth + 2);
            default: return test(random, depth + 2) + " or " + test(random, depth + 2);
        }
    }

    private static String sum(Random random, int depth) {
        int kind = random.nextInt(depth > 7 ? 2 : 7);
        switch (kind) {
            case 0: return String.valueOf(random.nextInt(10000));
            case 1: return List.of("day", "held", "lent", "bent", "yard").get(random.nextInt(5));
            case 2: return "(" + sum(random, depth + 1) + ")";
            case 3: return List.of("min", "max").get(random.nextInt(2)) + "(" + sum(random, depth + 1) + "," + sum(random, depth + 1) + ")";
            case 4: return List.of("purse ", "stands ", "reach ").get(random.nextInt(3)) + "(" + sum(random, depth + 2) + ")";
            default: return sum(random, depth + 2) + "+-*/".charAt(random.nextInt(4)) + sum(random, depth + 2);
        }
    }

    /** The text as it is, or with some pieces or bytes left out, doubled, put in or changed. */
    private static String spoil(Random random, String whole) {
        StringBuilder text = new StringBuilder(whole);
        String[] others = {"tower", "of", "to", "a", "b", "abcdefg", "7", "00001", "9999", ";", ";;", " ", "\n", "\t", "(", ")", "[", "]",
            "not", "all", "and", "purse", "+", "-", ",", "x", "A", "\0", "0", "15", " gap ", " loan ", " day "};
        for (int times = random.nextInt(4); times > 0; times--) {
            if (text.length() == 0) {
                break;
            }
            int at = random.nextInt(text.length());
            switch (random.nextInt(6)) {
                case 0: text.deleteCharAt(at); break;
                case 1: text.insert(at, others[random.nextInt(others.length)]); break;
                case 2: text.setCharAt(at, (char) random.nextInt(256)); break;
                case 3: text.setLength(at); break;
                case 4: text.insert(at, text.charAt(at)); break;
                default: text.setCharAt(at, "abcgst0123459;".charAt(random.nextInt(14))); break;
            }
        }
        return text.toString();
    }
}
