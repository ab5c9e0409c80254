import java.lang.reflect.Constructor;
import java.lang.reflect.Field;
import java.lang.reflect.Member;
import java.lang.reflect.Method;
import java.lang.reflect.Modifier;
import java.nio.file.Files;
import java.nio.file.Path;
import java.util.ArrayList;
import java.util.Arrays;
import java.util.HashSet;
import java.util.List;
import java.util.Set;
import java.util.regex.Matcher;
import java.util.regex.Pattern;

/** What of ../shared/LANGUAGE.md can be seen in the file's text and in the compiled class. */
public final class LanguageTest {
    private static final String FACE = "int feed(long,long,long) int inn() int morning() int guest(int,int) int shows(int) "
            + "int left() int answer(int,int,boolean) int sign(int,boolean) int weather(int) int night() boolean undo() "
            + "int judged(int) int spare() int who() int ask() int fewest() int tell() int knows(int,int) "
            + "int sure(int,int,int) int rounds(int,int) int common(int) boolean hear(int,boolean) int likely() int odds(int) "
            + "int errors(int,int,int) int hunt(int) int same(int) int bill(int,int) int beds(int) int watch(int,int) "
            + "int years(int,int,int) boolean mark(int,boolean) int count(int)";

    /** The text without comments, and with empty strings and characters. */
    private static String bare(String source) {
        String noComments = Pattern.compile("/\\*.*?\\*/", Pattern.DOTALL).matcher(source).replaceAll("");
        return noComments.replaceAll("//[^\n]*", "").replaceAll("\"[^\"\n]*\"", "\"\"").replaceAll("'\\\\?.'", "' '");
    }

    private static void text(String code) {
        String[] never = {"\\bthrow\\b", "\\bthrows\\b", "\\btry\\b", "\\bcatch\\b", "\\bsynchronized\\b", "\\bassert\\b",
            "->", "::", "\\bimport\\b", "\\bpackage\\b", "\\bprotected\\b", "\\bSystem\\.(?!arraycopy)", "\\bRandom\\b",
            "Exact\\b", "\\bthread\\b", "\\bstatic \\{", "\\bvar\\b", "\\bString\\[", "\\bObject\\b", "\\bvolatile\\b",
            "\\bnative\\b", "\\+ \"", "\" \\+", "\\bhashCode\\b", "\\btoString\\b", "\\bwhile \\(true\\)", "for \\(;;"};
        for (String word : never) {
            Matcher found = Pattern.compile(word).matcher(code);
            Check.due("the source has " + word, found.find(), false);
        }
        Matcher fields = Pattern.compile("static (?!final)\\w+(\\[\\])* \\w+ *[=;]").matcher(code);
        Check.due("a static field is not final", fields.find(), false);
    }

    private static void methods(String source) {
        String[] lines = source.split("\n");
        int from = -1;
        String open = "";
        for (int i = 0; i < lines.length; i++) {
            Matcher starts = Pattern.compile("^( {4}| {8})(?!private static final class)\\w.*\\) \\{$").matcher(lines[i]);
            if (starts.find()) {
                from = i;
                open = starts.group(1);
                Check.due("seven parameters at most: " + lines[i], lines[i].split(",").length <= 7, true);
            } else if (from >= 0 && lines[i].equals(open + "}")) {
                Check.due("sixty lines at most: " + lines[from], i - from <= 60, true);
                from = -1;
            }
        }
    }

    private static boolean seen(Member member) {
        return !Modifier.isPrivate(member.getModifiers());
    }

    private static void face() {
        Class<?> it = ExtraGuest.class;
        Check.due("public and final", Modifier.isPublic(it.getModifiers()) && Modifier.isFinal(it.getModifiers()), true);
        Set<String> due = new HashSet<>(Arrays.asList(FACE.split(" (?=int |boolean )")));
        Set<String> names = new HashSet<>();
        Set<String> got = new HashSet<>();
        for (Method method : it.getDeclaredMethods()) {
            if (seen(method) && !method.isSynthetic()) {
                List<String> types = new ArrayList<>();
                for (Class<?> type : method.getParameterTypes()) {
                    types.add(type.getName());
                }
                got.add(method.getReturnType() + " " + method.getName() + "(" + String.join(",", types) + ")");
                Check.due("public: " + method, Modifier.isPublic(method.getModifiers()), true);
                names.add(method.getName());
            }
        }
        Check.due("the face is whole and has no more", got.equals(due), true);
        int constants = 0;
        for (Field field : it.getDeclaredFields()) {
            constants += seen(field) ? 1 : 0;
        }
        Check.due("one constant", constants, 1);
        Constructor<?>[] made = it.getDeclaredConstructors();
        Check.due("one constructor", made.length == 1 && made[0].getParameterCount() == 0, true);
        inside(it, names);
    }

    private static void inside(Class<?> it, Set<String> names) {
        Class<?>[] classes = it.getDeclaredClasses();
        Check.due("twelve classes at most", classes.length + 1 <= 12, true);
        for (Class<?> one : classes) {
            Check.due("static: " + one, Modifier.isStatic(one.getModifiers()), true);
            Check.due("not public: " + one, Modifier.isPublic(one.getModifiers()), false);
            int fields = 0;
            for (Field field : one.getDeclaredFields()) {
                fields += field.isSynthetic() ? 0 : 1;
            }
            Check.due("twenty fields at most: " + one, fields <= 20, true);
            for (Method method : one.getDeclaredMethods()) {
                Check.due("no name of the face: " + method, names.contains(method.getName()), false);
            }
        }
    }

    public static void main(String[] args) throws Exception {
        String source = Files.readString(Path.of("src/main/java/ExtraGuest.java"));
        for (int i = 0; i < source.length(); i++) {
            Check.due("sign " + (int) source.charAt(i), source.charAt(i) < 128, true);
        }
        text(bare(source));
        methods(source);
        face();
        Check.end();
    }
}
