import java.lang.reflect.Constructor;
import java.lang.reflect.Field;
import java.lang.reflect.Method;
import java.lang.reflect.Modifier;
import java.nio.file.Files;
import java.nio.file.Path;
import java.util.ArrayList;
import java.util.List;
import java.util.Set;
import java.util.TreeSet;
import java.util.regex.Matcher;
import java.util.regex.Pattern;

/** The face of the class, and those of LANGUAGE.md's rules that can be read off the class or its text. */
final class LanguageTest {
    private static final Due DUE = new Due("LanguageTest");
    private static final String[] FACE = {
        "int feed(int,int,int,int,int)", "int text(int)", "int fault(int)", "int named(int)", "int stripe(int,int)",
        "int croft(int,int)", "int field(int,int)", "int source(int,int)", "long law(int,int,int)", "boolean act(int,int)",
        "boolean rule(int)", "boolean lot(int,int)", "boolean lend(int,int)", "int go(int)", "int table(int,int,int)",
        "int best(int)", "int plan(int,int)", "int planned(int,int,int)", "int rests(int,int,int)",
        "int rest(int,int,int,int)", "int unlike()", "int swap(int)", "int lending(int,int,int,int)", "int turns(int)",
        "int turn(int,int)", "int odds(int,int)", "int see(int,int,boolean)", "int strike(int)", "boolean known(int)",
        "int came(int)", "int chance(int,int,int,int)", "int tried(int,int,int)", "int undo()", "int keep()", "int back()",
        "int count(int)"};
    private static final String[] NOT_IN_IT = {"->", "::", "@", "\\bfinally\\b", "\\bassert\\b",
        "\\bcatch \\((ArrayIndex|NullPointer|Arithmetic|ClassCast|NegativeArray|ArrayStore|IndexOutOf|Runtime|Exception|Throwable)",
        "\\bsynchronized\\b", "\\bvar\\b", "\\bprotected\\b", "Exact\\b",
        "\\bSystem\\.(?!arraycopy)", "\\bRandom\\b", "\\bThread\\b", "\"\\s*\\+|\\+\\s*\"", "\\bstatic\\s*\\{",
        "while \\(true\\)", "for \\(;;\\)"};

    public static void main(String[] args) throws Exception {
        face();
        inside();
        text(Files.readString(Path.of("src/main/java/WeedStrand.java")));
        DUE.end();
    }

    private static void face() {
        DUE.is("public and final", Modifier.isFinal(WeedStrand.class.getModifiers())
            && Modifier.isPublic(WeedStrand.class.getModifiers()), true);
        Set<String> due = new TreeSet<>(List.of(FACE));
        Set<String> names = new TreeSet<>();
        for (Method method : WeedStrand.class.getDeclaredMethods()) {
            if (!Modifier.isPrivate(method.getModifiers())) {
                List<String> types = new ArrayList<>();
                for (Class<?> type : method.getParameterTypes()) {
                    types.add(type.getSimpleName());
                }
                String told = method.getReturnType().getSimpleName() + " " + method.getName() + "(" + String.join(",", types) + ")";
                DUE.is(told + " is of the face", due.remove(told) && Modifier.isPublic(method.getModifiers()), true);
                names.add(method.getName());
            }
        }
        DUE.is("missing " + due, due.size(), 0);
        for (Method method : WeedStrand.class.getDeclaredMethods()) {
            if (Modifier.isPrivate(method.getModifiers())) {
                DUE.is("private " + method.getName() + " is of the face", names.contains(method.getName()), false);
            }
        }
        for (Field field : WeedStrand.class.getDeclaredFields()) {
            boolean isConstant = field.getName().equals("NONE");
            DUE.is(field.getName() + " private", Modifier.isPrivate(field.getModifiers()), !isConstant);
        }
        DUE.is("NONE", WeedStrand.NONE, -1);
        for (Constructor<?> made : WeedStrand.class.getDeclaredConstructors()) {
            DUE.is("constructor", Modifier.isPublic(made.getModifiers()) && made.getParameterCount() == 0, true);
        }
    }

    private static void inside() {
        Class<?>[] inside = WeedStrand.class.getDeclaredClasses();
        DUE.is("classes in all", inside.length < 12, true);
        List<Class<?>> all = new ArrayList<>(List.of(inside));
        all.add(WeedStrand.class);
        for (Class<?> one : all) {
            int fields = 0;
            for (Field field : one.getDeclaredFields()) {
                if (Modifier.isStatic(field.getModifiers())) {
                    DUE.is(one.getSimpleName() + "." + field.getName() + " final", Modifier.isFinal(field.getModifiers()), true);
                } else {
                    fields++;
                }
            }
            DUE.is(one.getSimpleName() + " fields " + fields, fields <= 20, true);
            for (Method method : one.getDeclaredMethods()) {
                DUE.is(method.getName() + " parameters", method.getParameterCount() <= 7, true);
            }
        }
    }

    private static void text(String source) {
        String bare = source.replaceAll("/\\*[\\s\\S]*?\\*/", "").replaceAll("//[^\n]*", "");
        for (String pattern : NOT_IN_IT) {
            Matcher found = Pattern.compile(pattern).matcher(bare);
            DUE.is(pattern + " in the class", found.find(), false);
        }
        int begun = 0;
        int line = 0;
        for (String told : source.split("\n")) {
            line++;
            if (told.matches(" {4,8}[a-zA-Z].*\\) (throws .*)?\\{")) {
                begun = line;
            } else if (told.matches(" {4,8}\\}") && begun > 0) {
                DUE.is("lines of the method at " + begun, line - begun < 60, true);
                begun = 0;
            }
        }
    }
}
