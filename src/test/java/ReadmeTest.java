import java.lang.reflect.Method;
import java.lang.reflect.Modifier;
import java.nio.file.Files;
import java.nio.file.Path;
import java.util.Set;
import java.util.TreeSet;
import java.util.regex.Matcher;
import java.util.regex.Pattern;

/** README.md: its text is told and its calls are made, one behind another; each answer is as it says. */
final class ReadmeTest {
    private static final Due DUE = new Due("ReadmeTest");
    private static final Pattern TEXT = Pattern.compile("```text\n(.*?)```", Pattern.DOTALL);
    private static final Pattern CALL = Pattern.compile("(?m)^x\\.(\\w+)\\((.*)\\); +// (-?\\d+|true|false|Long\\.MIN_VALUE): ");
    private static final Set<String> TOLD_BY_HELPER = Set.of("feed", "text", "fault");

    public static void main(String[] args) throws Exception {
        String readme = Files.readString(Path.of("README.md"));
        Matcher text = TEXT.matcher(readme);
        DUE.is("a text in README.md", text.find(), true);
        WeedStrand x = new WeedStrand();
        DUE.is("lines of it", Due.tell(x, text.group(1)), 15);
        Set<String> missing = new TreeSet<>();
        for (Method method : WeedStrand.class.getDeclaredMethods()) {
            if (Modifier.isPublic(method.getModifiers())) {
                missing.add(method.getName());
            }
        }
        Matcher call = CALL.matcher(readme);
        int calls = 0;
        while (call.find()) {
            calls++;
            DUE.is("x." + call.group(1) + "(" + call.group(2) + ")", answer(x, call.group(1), call.group(2)), due(call.group(3)));
            missing.remove(call.group(1));
        }
        for (String name : TOLD_BY_HELPER) {
            DUE.is(name + " in README.md", readme.contains("x." + name + "("), true);
            missing.remove(name);
        }
        DUE.is("calls that README.md doesn't show: " + missing, missing.size(), 0);
        DUE.is("lines of calls that aren't read", readme.split("(?m)^x\\.").length - 1, calls);
        DUE.end();
    }

    private static long due(String told) {
        switch (told) {
            case "true": return 1;
            case "false": return 0;
            case "Long.MIN_VALUE": return Long.MIN_VALUE;
            default: return Long.parseLong(told);
        }
    }

    private static long answer(WeedStrand x, String name, String told) throws Exception {
        String[] words = told.isEmpty() ? new String[0] : told.split(", ");
        for (Method method : WeedStrand.class.getDeclaredMethods()) {
            if (method.getName().equals(name) && method.getParameterCount() == words.length) {
                Object[] numbers = new Object[words.length];
                for (int i = 0; i < words.length; i++) {
                    boolean isNumber = method.getParameterTypes()[i] == int.class;
                    numbers[i] = isNumber ? (Object) Integer.decode(words[i]) : (Object) Boolean.valueOf(words[i]);
                }
                Object answer = method.invoke(x, numbers);
                return answer instanceof Boolean ? (Boolean) answer ? 1 : 0 : ((Number) answer).longValue();
            }
        }
        throw new IllegalArgumentException("no call " + name);
    }
}
