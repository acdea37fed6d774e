import java.io.IOException;
import java.lang.reflect.Constructor;
import java.lang.reflect.Field;
import java.lang.reflect.Method;
import java.lang.reflect.Modifier;
import java.nio.file.Files;
import java.nio.file.Path;
import java.util.ArrayList;
import java.util.List;
import java.util.Random;
import java.util.Set;
import java.util.TreeSet;
import java.util.regex.Matcher;
import java.util.regex.Pattern;

/** The public face, the rules of LANGUAGE.md that can be read off the source, calls that must not throw. */
public final class FaceTest {
    private static final String[] FACE = {
        "int feed(int,int,int,int,int)", "boolean end(int)", "int realm()", "int fault(int)", "int has(int)",
        "int letter(int,int,int)", "int tower(int,int)", "int purse(int)", "int step(int,int,int)",
        "int loan(int,int)", "int guard(int,int)", "int lend(int,int,int,int,int)", "boolean back(int)",
        "boolean refit(int,int)", "int go(int)", "boolean undo()", "int reaches(int,int)", "int hops(int)",
        "int spare(int,int)", "int need(int,int)", "int rescue(int,int)", "int falls(int,int)", "int odds(int)",
        "int blame(int,int)", "int netted()", "int ring()", "int wood(int)", "int rents(int,int)", "int lost(int)",
        "long ask()", "int image()", "int octet(int)", "int status(int)"};
    private static final int[] WILD = {0, 1, 2, 3, 4, 5, 6, 7, 13, 14, 15, 23, 24, 25, 99, 100, 101, 999, 1600,
        -1, -2, -1000000000, Integer.MAX_VALUE, Integer.MIN_VALUE, Integer.MAX_VALUE - 1, 31, 32, 33, 64};
    private static final String[] PIECES = {"tower ", "steps ", "wood ", "costs ", "gap ", "of ", "guard ", "legs ",
        "rope ", "loan ", "to ", "days ", "rent ", "bends ", "enemy ", "odds ", "a ", "b ", "c ", ";", "; ", "1 ", "3 ",
        "14 ", "12345 ", "abcdefg ", "first ", "last ", "often ", "total ", "most ", "least ", "(", ")", "[", "]",
        "not ", "all ", "and ", "or ", "min", "max", ",", "+", "-", "*", "/", "<", ">", "=", "day ", "purse ",
        "stands ", "reach ", "held ", "\n", "\0", "\u00ff", "9999 ", "0 "};
    private static final String REALM = "tower a steps 14; tower b steps 9; tower c steps 3; guard g of a legs 3 rope 2;"
            + "guard h of b legs 1 rope 0; gap 4 of a; gap 5 of a; loan 1 of a to b days 5 rent 3; enemy 2 odds 4;"
            + "bends 2; loan 9 of b to c days 3 rent 99;";

    public static void main(String[] args) throws Exception {
        face();
        headings();
        rules();
        for (long seed = 0; seed < 300; seed++) {
            wild(new Random(seed));
        }
        Check.finish();
    }

    private static void face() throws Exception {
        Check.due("NONE", LentStairs.class.getField("NONE").getInt(null), -1);
        Check.due("NOTHING", LentStairs.class.getField("NOTHING").getInt(null), -1000000000);
        Check.due("final", Modifier.isFinal(LentStairs.class.getModifiers()), true);
        Set<String> open = new TreeSet<>();
        for (Method method : LentStairs.class.getDeclaredMethods()) {
            if (!Modifier.isPrivate(method.getModifiers())) {
                StringBuilder text = new StringBuilder();
                text.append(method.getReturnType()).append(' ').append(method.getName()).append('(');
                for (Class<?> type : method.getParameterTypes()) {
                    text.append(text.charAt(text.length() - 1) == '(' ? "" : ",").append(type);
                }
                open.add(text.append(')').toString());
                Check.due(method + " is public alone", method.getModifiers(), Modifier.PUBLIC);
            }
        }
        Check.due("the face " + open, open.equals(new TreeSet<>(List.of(FACE))), true);
        int fields = 0;
        for (Field field : LentStairs.class.getDeclaredFields()) {
            fields += Modifier.isPrivate(field.getModifiers()) ? 0 : 1;
        }
        Check.due("constants", fields, 2);
        Constructor<?>[] constructors = LentStairs.class.getDeclaredConstructors();
        Check.due("constructors", constructors.length, 1);
        Check.due("constructor", constructors[0].getModifiers(), Modifier.PUBLIC);
        Check.due("classes", LentStairs.class.getDeclaredClasses().length <= 12, true);
        for (Class<?> inside : LentStairs.class.getDeclaredClasses()) {
            Check.due(inside + " is static", Modifier.isStatic(inside.getModifiers()), true);
            Check.due(inside + " is not public", Modifier.isPrivate(inside.getModifiers()), true);
            fields(inside);
        }
        fields(LentStairs.class);
    }

    /** Rules 3, 5 and 11: what a class holds, and no static state. */
    private static void fields(Class<?> owner) {
        int held = 0;
        for (Field field : owner.getDeclaredFields()) {
            Class<?> type = field.getType();
            if (Modifier.isStatic(field.getModifiers())) {
                Check.due(field + " is final", Modifier.isFinal(field.getModifiers()), true);
                Check.due(field + " is a number or a text", type == int.class || type == String.class, true);
            } else {
                held++;
                boolean own = type.getNestHost() == LentStairs.class;
                Check.due(field + " is of a type that may stand", own || type == int.class || type == int[].class, true);
                Check.due(field + " is hidden", Modifier.isPrivate(field.getModifiers()), true);
            }
        }
        Check.due(owner + " has at most 20 fields", held <= 20, true);
    }

    /** What "the interface says" ahead of some of the calls, between the call ahead of it and the one behind. */
    private static void headings() throws IOException {
        String source = Files.readString(Path.of("src/main/java/LentStairs.java"));
        String[][] want = {{"guard", "---- acts", "lend"}, {"undo", "---- who reaches what", "reaches"},
            {"rescue", "---- enemies, guards held back", "falls"},
            {"blame", "---- loans netted, wood, days to come", "netted"}, {"ask", "---- images, refusals", "image"}};
        for (String[] one : want) {
            Check.says("IV", one[1] + ".");
            int heading = source.indexOf("// " + one[1] + "\n");
            Check.due("behind " + one[0], source.indexOf(" " + one[0] + "(") < heading, true);
            Check.due("ahead of " + one[2], heading < source.indexOf("public int " + one[2] + "("), true);
        }
        Check.told("IV");
    }

    private static void rules() throws IOException {
        String source = Files.readString(Path.of("src/main/java/LentStairs.java"))
                .replaceAll("(?s)/\\*.*?\\*/", "").replaceAll("//[^\n]*", "");
        Matcher banned = Pattern.compile(
                "\\b(throw|try|catch|synchronized|assert|import|package|Exact|System\\.(?!arraycopy)|random|"
                + "native|strictfp|volatile|transient)\\b|->|::").matcher(source);
        while (banned.find()) {
            Check.due("banned: " + banned.group(), true, false);
        }
        Set<String> names = new TreeSet<>();
        for (String call : FACE) {
            names.add(call.substring(call.indexOf(' ') + 1, call.indexOf('(')));
        }
        Matcher method = Pattern.compile("(private|public) (static )?(int|long|boolean|void) (\\w+)\\(([^)]*)\\) \\{")
                .matcher(source);
        while (method.find()) {
            boolean hidden = method.group(1).equals("private");
            Check.due(method.group(4) + " is hidden and named as one of the face", hidden && names.contains(method.group(4)), false);
            Check.due(method.group(4) + " has at most 7 parameters", method.group(5).split(",").length <= 7, true);
            int depth = 1;
            int lines = 1;
            for (int i = method.end(); depth > 0; i++) {
                char c = source.charAt(i);
                depth += c == '{' ? 1 : c == '}' ? -1 : 0;
                lines += c == '\n' ? 1 : 0;
            }
            Check.due(method.group(4) + " is short", lines <= 60, true);
        }
    }

    private static void wild(Random random) throws Exception {
        LentStairs x = new LentStairs();
        Check.realm(x, REALM);
        List<Method> calls = new ArrayList<>();
        for (Method method : LentStairs.class.getDeclaredMethods()) {
            if (Modifier.isPublic(method.getModifiers())) {
                calls.add(method);
            }
        }
        calls.sort((a, b) -> a.getName().compareTo(b.getName()));
        for (int i = 0; i < 400; i++) {
            if (random.nextInt(10) == 0) {
                Check.tape(x, text(random));
            }
            Method call = calls.get(random.nextInt(calls.size()));
            Object[] arguments = new Object[call.getParameterCount()];
            for (int k = 0; k < arguments.length; k++) {
                arguments[k] = random.nextInt(4) == 0 ? WILD[random.nextInt(WILD.length)] : random.nextInt(6);
            }
            call.invoke(x, arguments);
        }
    }

    private static String text(Random random) {
        StringBuilder text = new StringBuilder(random.nextBoolean() ? REALM : "");
        for (int i = random.nextInt(40); i > 0; i--) {
            text.insert(random.nextInt(text.length() + 1), PIECES[random.nextInt(PIECES.length)]);
        }
        return text.toString();
    }
}
