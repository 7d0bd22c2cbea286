import java.io.IOException;
import java.lang.reflect.Constructor;
import java.lang.reflect.Field;
import java.lang.reflect.Method;
import java.lang.reflect.Modifier;
import java.nio.charset.StandardCharsets;
import java.nio.file.Files;
import java.nio.file.Path;
import java.util.ArrayList;
import java.util.List;
import java.util.Set;
import java.util.TreeSet;
import java.util.regex.Matcher;
import java.util.regex.Pattern;

/** The public face, and the rules of LANGUAGE.md that can be seen in the class or in its text. */
public final class LanguageTests {
    private static final Due DUE = new Due("LanguageTests");
    private static final Path SOURCE = Path.of("src/main/java/EndTeller.java");

    private static final String[] FACE = {
        "int status()", "boolean tray(int,int,int)", "boolean write(int,int,long)", "long read(int,int)",
        "boolean pour(int,int,int,int,int)", "int part(int,int,int)", "int fixed(int,int)",
        "int either(int,int,int,int,int)", "int again(int,int,int,int)", "boolean need(int,int,boolean)",
        "int cause(int,int)", "boolean late(int,int,int)", "boolean hands(int)", "boolean clear()",
        "int told(int,int)", "int row(int,int,int)", "long upper()", "long lower()", "int ways()",
        "boolean ends(int)", "boolean done(int,int)", "int promise(int,int)", "boolean mean()", "boolean spread()",
        "boolean sure(int)", "int surest()", "boolean moves(int)", "boolean end(int,int)", "boolean today(int)",
        "boolean telling(int,int,boolean)", "int judged(int,int)", "boolean said(int)",
    };

    private static final String[] FORBIDDEN = {
        "throw", "throws", "try", "catch", "synchronized", "assert", "package", "while", "hashCode", "toString",
        "Random", "Thread", "Object", "float", "double", "volatile", "transient", "native", "protected", "record",
    };

    private LanguageTests() {
    }

    public static void main(String[] args) throws IOException {
        Class<?> face = EndTeller.class;
        checkFace(face);
        List<Class<?>> all = new ArrayList<>(List.of(face));
        all.addAll(List.of(face.getDeclaredClasses()));
        DUE.is("at most twelve classes", all.size() <= 12, true);
        for (Class<?> c : all) {
            checkClass(c);
        }
        checkText(withoutCommentsAndTexts(Files.readString(SOURCE, StandardCharsets.UTF_8)));
        DUE.close();
    }

    private static String told(Method m) {
        List<String> types = new ArrayList<>();
        for (Class<?> p : m.getParameterTypes()) {
            types.add(p.getSimpleName());
        }
        return m.getReturnType().getSimpleName() + " " + m.getName() + "(" + String.join(",", types) + ")";
    }

    private static void checkFace(Class<?> face) {
        Set<String> found = new TreeSet<>();
        Set<String> publicNames = new TreeSet<>();
        for (Method m : face.getDeclaredMethods()) {
            if (!Modifier.isPrivate(m.getModifiers()) && !m.isSynthetic()) {
                DUE.is(m + " is public, and no static one", Modifier.isPublic(m.getModifiers())
                    && !Modifier.isStatic(m.getModifiers()), true);
                found.add(told(m));
                publicNames.add(m.getName());
            }
        }
        DUE.is("the methods of the face: " + found, found.equals(new TreeSet<>(List.of(FACE))), true);
        int modifiers = face.getModifiers();
        DUE.is("public and final", Modifier.isPublic(modifiers) && Modifier.isFinal(modifiers), true);
        Constructor<?>[] constructors = face.getDeclaredConstructors();
        DUE.is("one constructor", constructors.length, 1);
        DUE.is("without parameters", constructors[0].getParameterCount(), 0);
        for (Field f : face.getDeclaredFields()) {
            boolean isNone = f.getName().equals("NONE");
            DUE.is(f + " is private, or NONE", isNone || Modifier.isPrivate(f.getModifiers()), true);
        }
        for (Class<?> c : face.getDeclaredClasses()) {
            for (Method m : c.getDeclaredMethods()) {
                DUE.is(m + " has no name of the face", publicNames.contains(m.getName()), false);
            }
        }
        for (Method m : face.getDeclaredMethods()) {
            DUE.is(m + " has no name of the face", Modifier.isPrivate(m.getModifiers())
                && publicNames.contains(m.getName()), false);
        }
    }

    private static void checkClass(Class<?> c) {
        int fields = 0;
        for (Field f : c.getDeclaredFields()) {
            boolean isStatic = Modifier.isStatic(f.getModifiers());
            fields += isStatic ? 0 : 1;
            DUE.is(f + " is final if static", !isStatic || Modifier.isFinal(f.getModifiers()), true);
        }
        DUE.is(c + " has at most twenty fields", fields <= 20, true);
        DUE.is(c + " is static if inside", c.getEnclosingClass() == null || Modifier.isStatic(c.getModifiers()), true);
        DUE.is(c + " has no class inside a method", c.isAnonymousClass() || c.isLocalClass(), false);
        for (Method m : c.getDeclaredMethods()) {
            DUE.is(m + " takes at most seven", m.getParameterCount() <= 7, true);
        }
    }

    private static String withoutCommentsAndTexts(String text) {
        String bare = text.replaceAll("(?s)/\\*.*?\\*/", " ").replaceAll("//[^\n]*", " ");
        return bare.replaceAll("\"(\\\\.|[^\"\\\\])*\"", "\"\"");
    }

    private static void checkText(String text) {
        for (String word : FORBIDDEN) {
            DUE.is("the word " + word, Pattern.compile("\\b" + word + "\\b").matcher(text).find(), false);
        }
        DUE.is("a lambda or method reference", text.contains("->") || text.contains("::"), false);
        DUE.is("a static block", Pattern.compile("static\\s*\\{").matcher(text).find(), false);
        Matcher imports = Pattern.compile("import\\s+([\\w.]+);").matcher(text);
        while (imports.find()) {
            DUE.is("import of " + imports.group(1), imports.group(1).equals("java.util.Arrays"), true);
        }
        Matcher library = Pattern.compile("\\b(System|Arrays|Math|Integer|Long)\\.(\\w+)").matcher(text);
        Set<String> allowed = Set.of("System.arraycopy", "Arrays.fill", "Math.max", "Math.min", "Integer.bitCount");
        while (library.find()) {
            DUE.is("use of " + library.group(), allowed.contains(library.group()), true);
        }
        checkLengths(text);
    }

    /** Methods are told by their heads: two or one levels inside a class, with a brace at the end of the line. */
    private static void checkLengths(String text) {
        String[] lines = text.split("\n");
        Pattern head = Pattern.compile("^( {4}| {8})\\w[\\w\\[\\]<> ]*\\([^;]*\\) \\{$");
        for (int k = 0; k < lines.length; k++) {
            Matcher m = head.matcher(lines[k]);
            if (m.find()) {
                int end = k;
                while (end < lines.length && !lines[end].equals(m.group(1) + "}")) {
                    end++;
                }
                DUE.is(lines[k].trim() + " is short", end - k <= 60, true);
            }
        }
    }
}
