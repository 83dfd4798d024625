import java.lang.reflect.InvocationTargetException;
import java.lang.reflect.Method;
import java.util.Arrays;
import java.util.Comparator;
import java.util.HashMap;
import java.util.Map;

/** Runs the tests of a class, each of which names a sentence of the document, and looks that no word is left out. */
final class Boundaries {
    private final Check check;
    private final Document document;
    /** Of each part which of its signs stand in a named sentence. */
    private final Map<String, boolean[]> named = new HashMap<>();

    private Boundaries(Check check, Document document) {
        this.check = check;
        this.document = document;
        for (String name : document.names()) {
            named.put(name, new boolean[document.part(name).length()]);
        }
    }

    static void run(Class<?> tests, Check check) throws Exception {
        Boundaries all = new Boundaries(check, new Document());
        Method[] methods = tests.getDeclaredMethods();
        Arrays.sort(methods, Comparator.comparing(Method::getName));
        for (Method method : methods) {
            Sentence sentence = method.getAnnotation(Sentence.class);
            if (sentence != null) {
                all.runOne(method, sentence);
            } else if (method.getParameterCount() == 0 && method.getReturnType() == void.class && !method.isSynthetic()) {
                check.naming("");
                check.same("sentence of " + method.getName(), "none", "one");
            }
        }
        check.naming("");
        Covers covers = tests.getAnnotation(Covers.class);
        for (String part : covers == null ? new String[0] : covers.value()) {
            check.same("words of " + part + " in no sentence", all.leftOut(part), "");
        }
        check.end();
    }

    private void runOne(Method method, Sentence sentence) throws Exception {
        check.naming(sentence.in() + " says '" + sentence.says() + "': ");
        mark(sentence);
        int before = check.looked();
        try {
            method.setAccessible(true);
            method.invoke(null);
        } catch (InvocationTargetException e) {
            check.same(method.getName(), e.getCause().toString(), "nothing thrown");
        }
        check.due(method.getName() + " looks at answers", check.looked() > before, true);
    }

    private void mark(Sentence sentence) {
        String part = document.part(sentence.in());
        int at = part.indexOf(sentence.says());
        check.due("the document says so", at >= 0, true);
        check.due("and says so once", at == part.lastIndexOf(sentence.says()), true);
        if (at >= 0) {
            Arrays.fill(named.get(sentence.in()), at, at + sentence.says().length(), true);
        }
    }

    private String leftOut(String name) {
        String part = document.part(name);
        if (part.isEmpty()) {
            return "there is no such part";
        }
        boolean[] marks = named.get(name);
        StringBuilder left = new StringBuilder();
        for (int i = 0; i < part.length(); i++) {
            boolean counts = Character.isLetterOrDigit(part.charAt(i));
            left.append(counts && marks[i] ? "" : part.charAt(i));
        }
        return left.toString().replaceAll("[^\\p{Alnum}]+", " ").strip();
    }
}
