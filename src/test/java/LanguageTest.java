import java.io.IOException;
import java.lang.reflect.Constructor;
import java.lang.reflect.Field;
import java.lang.reflect.Method;
import java.lang.reflect.Modifier;
import java.nio.charset.StandardCharsets;
import java.nio.file.Files;
import java.nio.file.Path;
import java.util.Arrays;
import java.util.Set;
import java.util.TreeSet;
import java.util.regex.Matcher;
import java.util.regex.Pattern;

/** The rules of LANGUAGE.md that can be seen from the source's words or from the compiled class. */
public final class LanguageTest {
    private static final String FACE = "person(int,int,int) of(int,int) set(int,int,int) as(int,int) likes(int,int,int) "
        + "worth(int,int,int) rule(int,int) sit(int) line(int,int) may(int) follows(int,int) come() years(int) seed(int) "
        + "now(int) ahead(int) ever() turns(int) share(int,int) has(int,int) but(int,int,int) vote() kept(int,int,int) "
        + "pact(int) odds(int,int) feed(int,int) wipe() text() gives(int,int) untell() sheet(int,int,int) "
        + "write(int,int,long) copy(int,int,int,int,int) lays(int,int) read(int) image() undo() tear() count(int) "
        + "status(int)";
    private static int wrong = 0;

    private static void rule(int number, boolean kept, String what) {
        if (!kept) {
            wrong++;
            System.out.println("rule " + number + ": " + what);
        }
    }

    private static void face() {
        Class<?> c = NextButOne.class;
        rule(1, Modifier.isPublic(c.getModifiers()) && Modifier.isFinal(c.getModifiers()), "public and final");
        Set<String> told = new TreeSet<>();
        Set<String> names = new TreeSet<>();
        for (Method m : c.getDeclaredMethods()) {
            if (!Modifier.isPrivate(m.getModifiers())) {
                String form = m.toGenericString().replaceAll(".*NextButOne\\.", "");
                told.add(form);
                names.add(m.getName());
                String type = m.getName().equals("write") ? "long" : "int";
                rule(1, m.toGenericString().equals("public " + type + " NextButOne." + form), form);
            }
        }
        rule(1, told.equals(new TreeSet<>(Arrays.asList(FACE.split(" ")))), "the face is " + told);
        for (Method m : c.getDeclaredMethods()) {
            rule(1, !Modifier.isPrivate(m.getModifiers()) || !names.contains(m.getName()), m.getName());
        }
        for (Constructor<?> k : c.getDeclaredConstructors()) {
            rule(1, k.toString().equals("public NextButOne()"), k.toString());
        }
        for (Field f : c.getDeclaredFields()) {
            rule(1, Modifier.isPrivate(f.getModifiers()), f.getName());
        }
    }

    private static void classes() {
        Class<?>[] inside = NextButOne.class.getDeclaredClasses();
        rule(11, inside.length < 12, "classes");
        fields(NextButOne.class);
        for (Class<?> c : inside) {
            rule(2, Modifier.isStatic(c.getModifiers()) && !Modifier.isPublic(c.getModifiers()), c.getName());
            fields(c);
        }
    }

    private static void fields(Class<?> c) {
        int own = 0;
        for (Field f : c.getDeclaredFields()) {
            boolean still = Modifier.isStatic(f.getModifiers());
            rule(5, !still || Modifier.isFinal(f.getModifiers()), f.getName());
            own += still ? 0 : 1;
        }
        rule(11, own <= 20, "fields of " + c.getName());
        for (Method m : c.getDeclaredMethods()) {
            rule(11, m.getParameterCount() <= 7, "parameters of " + m.getName());
        }
    }

    /** The source without comments and texts, its lines kept. */
    private static String bare(String source) {
        Matcher m = Pattern.compile("/\\*.*?\\*/|//[^\n]*|\"[^\"\n]*\"|'[^'\n]+'", Pattern.DOTALL).matcher(source);
        return m.replaceAll(r -> r.group().replaceAll("[^\n]", " "));
    }

    private static void words(String source) {
        String code = bare(source);
        String[] not = {"throw", "throws", "try", "catch", "synchronized", "assert", "package", "protected", "finally",
            "hashCode", "toString", "Exact", "Object", "var", "System\\.(?!arraycopy)\\w+", "String\\.\\w+", "Math\\.random"};
        for (String word : not) {
            Matcher m = Pattern.compile("\\b" + word + "\\b").matcher(code);
            rule(6, !m.find(), word);
        }
        rule(2, !code.contains("->") && !code.contains("::"), "a lambda");
        Matcher imports = Pattern.compile("import ([^;]*);").matcher(code);
        while (imports.find()) {
            rule(4, imports.group(1).equals("java.util.Arrays"), imports.group(1));
        }
        for (int i = 0; i < source.length(); i++) {
            rule(4, source.charAt(i) < 127, "the sign at " + i);
        }
        rule(9, !Pattern.compile("while\\s*\\(\\s*true|for\\s*\\(\\s*;").matcher(code).find(), "a loop without an end");
    }

    private static void lengths(String source) {
        String[] lines = bare(source).split("\n", -1);
        int from = -1;
        for (int i = 0; i < lines.length; i++) {
            String indent = lines[i].replaceAll("\\S.*", "");
            boolean level = indent.length() == 4 || indent.length() == 8;
            if (level && lines[i].matches("\\s+[\\w\\[\\]. ]+\\(.*\\) \\{\\s*") && !lines[i].matches("\\s+(if|for|while|switch).*")) {
                from = i;
            } else if (level && lines[i].trim().equals("}") && from >= 0) {
                rule(11, i - from <= 60, "the method from line " + (from + 1));
                from = -1;
            }
        }
    }

    /** After it is made, an object makes nothing: rooms and rows are made by constructors and initialisers alone. */
    private static void nothingIsMade(String source) {
        String[] lines = bare(source).split("\n", -1);
        for (int i = 0; i < lines.length; i++) {
            boolean made = lines[i].matches(".*\\bnew\\b.*");
            boolean field = lines[i].matches("\\s+(private )?final .* = new .*;\\s*");
            boolean constructor = lines[i].matches("\\s+(sheets\\[s\\]|this\\.trial) = new .*;\\s*");
            rule(12, !made || field || constructor, "line " + (i + 1) + " makes something");
        }
    }

    public static void main(String[] args) throws IOException {
        String source = Files.readString(Path.of("src/main/java/NextButOne.java"), StandardCharsets.ISO_8859_1);
        face();
        classes();
        words(source);
        lengths(source);
        nothingIsMade(source);
        System.out.println(wrong == 0 ? "all rules are kept" : wrong + " rules are broken");
        if (wrong != 0) {
            System.exit(1);
        }
    }
}
