import java.lang.reflect.Constructor;
import java.lang.reflect.Field;
import java.lang.reflect.Method;
import java.lang.reflect.Modifier;
import java.nio.file.Files;
import java.nio.file.Path;
import java.util.Arrays;
import java.util.List;
import java.util.Set;
import java.util.TreeSet;
import java.util.regex.Matcher;
import java.util.regex.Pattern;

/** What of ../shared/LANGUAGE.md can be seen from the source's text and the compiled class's face. */
public final class LanguageTest {
    private static int wrong = 0;

    private static void hold(boolean held, String rule) {
        if (!held) {
            wrong++;
            System.out.println("language: " + rule);
        }
    }

    private static final String FACE = "asks(int,int,int,int):int mark(int,int,int):int told(int,int):int feed(int,int,int,int,int):int "
            + "end(int):int view():int rule():int says(int,int):int takes(int,int):int table(int,int,int):int gap(int,int):int "
            + "luck(int,int):long group(int,int,int):int lacks(int):int pairs(int,int):int next(int):int sway(int,int):int "
            + "letter(int,boolean,boolean):int turned(int,int):int coin(int,int):long hidden(int,int,int):long edge(int):int "
            + "ends(int,int,int,int):int claim(int,int,int,int):int sight(int,int,int,int):int even(int,int):int way(int,int):int "
            + "split(int,int,int):int holds(int,int,int):int nearest(int,int,int,int,int):int clash(int,int,int,int,int):int "
            + "few(int,int):int best(int,int,int):int own(int,int,int):int change(int,int,int):int image(int):int back(int):int count(int):int";

    private static void face() {
        Class<?> c = BecauseOf.class;
        hold(Modifier.isPublic(c.getModifiers()) && Modifier.isFinal(c.getModifiers()), "the class is public and final");
        Set<String> names = new TreeSet<>();
        Set<String> face = new TreeSet<>();
        for (Method m : c.getDeclaredMethods()) {
            if (Modifier.isPublic(m.getModifiers())) {
                names.add(m.getName());
                List<String> types = Arrays.stream(m.getParameterTypes()).map(Class::getName).toList();
                face.add(m.getName() + "(" + String.join(",", types) + "):" + m.getReturnType().getName());
            }
        }
        hold(face.equals(new TreeSet<>(Arrays.asList(FACE.split(" ")))), "the face is not the document's: " + face);
        checkPrivate(c, names);
        for (Field f : c.getDeclaredFields()) {
            hold(Modifier.isPrivate(f.getModifiers()) || f.getName().equals("NONE"), "a field of the class is not private: " + f);
        }
        for (Constructor<?> made : c.getDeclaredConstructors()) {
            hold(Modifier.isPublic(made.getModifiers()) && made.getParameterCount() == 0, "another constructor: " + made);
        }
        hold(c.getDeclaredConstructors().length == 1 && BecauseOf.NONE == -1, "one constructor, and NONE");
        hold(c.getDeclaredClasses().length <= 11, "more than twelve classes");
        for (Class<?> in : c.getDeclaredClasses()) {
            hold(Modifier.isStatic(in.getModifiers()) && !Modifier.isPublic(in.getModifiers()), "an inner class: " + in);
            checkPrivate(in, names);
        }
    }

    private static void checkPrivate(Class<?> c, Set<String> names) {
        int fields = 0;
        for (Field f : c.getDeclaredFields()) {
            boolean isStatic = Modifier.isStatic(f.getModifiers());
            hold(!isStatic || Modifier.isFinal(f.getModifiers()), "a static field is not final: " + f);
            fields += isStatic ? 0 : 1;
        }
        hold(fields <= 20, "more than twenty fields: " + c);
        for (Method m : c.getDeclaredMethods()) {
            boolean isFace = c == BecauseOf.class && Modifier.isPublic(m.getModifiers());
            hold(isFace || Modifier.isPrivate(m.getModifiers()) || c != BecauseOf.class, "a method is neither public nor private: " + m);
            hold(isFace || !names.contains(m.getName()), "a method bears the name of a public one: " + m);
            hold(m.getParameterCount() <= 7, "more than seven parameters: " + m);
            hold(!Set.of("equals", "hashCode", "toString").contains(m.getName()), "of its own: " + m);
        }
    }

    private static final Pattern LITERAL_OR_COMMENT =
            Pattern.compile("\"(?:\\\\.|[^\"\\\\])*\"|'(?:\\\\.|[^'\\\\])*'|//[^\n]*|/\\*.*?\\*/", Pattern.DOTALL);

    /** The source with its comments blank and its texts empty, line by line as it was. */
    private static String bare(String source) {
        Matcher m = LITERAL_OR_COMMENT.matcher(source);
        StringBuilder s = new StringBuilder();
        while (m.find()) {
            String found = m.group();
            String rest = found.startsWith("\"") ? "\"\"" : found.startsWith("'") ? "' '" : "\n".repeat((int) found.chars().filter(c -> c == '\n').count());
            m.appendReplacement(s, Matcher.quoteReplacement(rest));
        }
        return m.appendTail(s).toString();
    }

    private static void text(String source) {
        hold(source.chars().allMatch(c -> c == '\n' || c >= 32 && c < 127), "a sign that is none of 32 to 126");
        String code = bare(source);
        for (String word : List.of("throw", "throws", "try", "catch", "finally", "synchronized", "assert", "package", "native", "volatile",
                "transient", "double", "float", "Object", "Thread", "Random", "System\\.(?!arraycopy)", "Math\\.\\w*Exact", "yield", "goto")) {
            hold(!Pattern.compile("\\b" + word + (word.endsWith(")") ? "" : "\\b")).matcher(code).find(), "forbidden: " + word);
        }
        hold(!code.contains("->") && !code.contains("::"), "a lambda or a method reference");
        hold(!code.contains("\"\" +") && !code.contains("+ \"\""), "texts joined by +");
        hold(!Pattern.compile("static\\s*\\{").matcher(code).find(), "a static block");
        hold(!Pattern.compile("for\\s*\\(\\s*;|while\\s*\\(\\s*true").matcher(code).find(), "a loop without an end");
        Matcher imports = Pattern.compile("import [^;]*;").matcher(code);
        while (imports.find()) {
            hold(imports.group().equals("import java.util.Arrays;"), imports.group());
        }
        methods(code.split("\n"));
    }

    private static void methods(String[] lines) {
        Pattern start = Pattern.compile("^( {4}(?: {4})?)\\w[\\w\\[\\]<> ]*\\([^;=]*$");
        for (int i = 0; i < lines.length; i++) {
            Matcher m = start.matcher(lines[i]);
            if (m.find() && !lines[i].contains("return")) {
                String close = m.group(1) + "}";
                int j = i;
                while (j < lines.length && !lines[j].equals(close)) j++;
                hold(j - i <= 60, "a long method: " + lines[i].strip());
            }
        }
    }

    public static void main(String[] args) throws Exception {
        face();
        text(Files.readString(Path.of(args[0])));
        System.out.println("the language: " + wrong + " rules broken");
        if (wrong > 0) System.exit(1);
    }
}
