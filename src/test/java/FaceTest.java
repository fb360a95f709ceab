import java.io.IOException;
import java.lang.reflect.Constructor;
import java.lang.reflect.Field;
import java.lang.reflect.Method;
import java.lang.reflect.Modifier;
import java.nio.file.Files;
import java.nio.file.Path;
import java.util.List;
import java.util.TreeSet;
import java.util.regex.Matcher;
import java.util.regex.Pattern;

/** The public face, and those rules of LANGUAGE.md that a text or a class file can show. */
public final class FaceTest {
    private static final String FACE =
        "int days(int) int row(int,int,int) int set(int,int,long) int copy(int,int,int,int,int) long element(int,int) "
        + "int holds(int) int says(int,int) int advert(int,int,int) int print(int,int,int) int saw(int,int,int) "
        + "int about(int,int) int phrase(int,int,int,int) int unphrase(int) int claims(int,int,int) "
        + "int claim(int,int,int) int keep(int,int,int) int proof(int,int,int) long results(int,int,int,int) "
        + "int measure(int,int) int rule(int,int) int fault() int strike(int) int bars(int,int,int,int) int seat(int) "
        + "int decide(int,int,int,int) int ruling(int,int) int kin(int,int) int like(int,int,int) "
        + "int apart(int,int,int) int binding(int,int) int clash(int,int) int appeal(int,boolean) int step(int) "
        + "int least(int) int leastSet() int judge(int,int) int beside(int) int stop(int,int,boolean) "
        + "int stopped(int,int,boolean) int status(int)";

    private static final List<String> IMPORTS =
        List.of("java.util.ArrayList", "java.util.Arrays", "java.util.Iterator", "java.util.List");

    private static final Check c = new Check("FaceTest");

    public static void main(String[] args) throws IOException {
        face();
        insides();
        text(Files.readString(Path.of("src/main/java/AdvertCouncil.java")));
        c.end();
    }

    private static void face() {
        c.due("final, public", AdvertCouncil.class.getModifiers(), Modifier.PUBLIC | Modifier.FINAL);
        TreeSet<String> want = new TreeSet<>(List.of(FACE.split(" (?=int |long )")));
        TreeSet<String> got = new TreeSet<>();
        TreeSet<String> publicNames = new TreeSet<>();
        for (Method method : AdvertCouncil.class.getDeclaredMethods()) {
            if (!Modifier.isPrivate(method.getModifiers())) {
                c.due(method + " is public alone", method.getModifiers(), Modifier.PUBLIC);
                StringBuilder types = new StringBuilder();
                for (Class<?> type : method.getParameterTypes()) {
                    types.append(types.length() == 0 ? "" : ",").append(type);
                }
                got.add(method.getReturnType() + " " + method.getName() + "(" + types + ")");
                publicNames.add(method.getName());
            }
        }
        c.due("the methods are those of the document " + got, got.equals(want) ? 1 : 0, 1);
        for (Method method : AdvertCouncil.class.getDeclaredMethods()) {
            boolean twin = Modifier.isPrivate(method.getModifiers()) && publicNames.contains(method.getName());
            c.due("no private twin of " + method, twin ? 1 : 0, 0);
        }
        for (Class<?> inside : AdvertCouncil.class.getDeclaredClasses()) {
            for (Method method : inside.getDeclaredMethods()) {
                boolean twin = Modifier.isPrivate(method.getModifiers()) && publicNames.contains(method.getName());
                c.due("no private twin " + method, twin ? 1 : 0, 0);
            }
        }
        Constructor<?>[] made = AdvertCouncil.class.getDeclaredConstructors();
        c.due("one constructor", made.length, 1);
        c.due("it is public", made[0].getModifiers(), Modifier.PUBLIC);
        c.due("it takes nothing", made[0].getParameterCount(), 0);
    }

    private static void insides() {
        for (Field field : AdvertCouncil.class.getDeclaredFields()) {
            boolean isNone = field.getName().equals("NONE");
            c.due(field + " is private", Modifier.isPrivate(field.getModifiers()) ? 0 : 1, isNone ? 1 : 0);
            if (isNone) {
                c.due("NONE", field.getModifiers(), Modifier.PUBLIC | Modifier.STATIC | Modifier.FINAL);
                c.due("NONE is an int", field.getType() == int.class ? 1 : 0, 1);
            }
        }
        Class<?>[] insides = AdvertCouncil.class.getDeclaredClasses();
        c.due("some twelve classes in the file", insides.length <= 12 ? 1 : 0, 1);
        looked(AdvertCouncil.class);
        for (Class<?> inside : insides) {
            c.due(inside + " is static", Modifier.isStatic(inside.getModifiers()) ? 1 : 0, 1);
            looked(inside);
        }
    }

    private static void looked(Class<?> one) {
        int fields = 0;
        for (Field field : one.getDeclaredFields()) {
            boolean isStatic = Modifier.isStatic(field.getModifiers());
            c.due(field + " is final if static", isStatic && !Modifier.isFinal(field.getModifiers()) ? 1 : 0, 0);
            fields += isStatic ? 0 : 1;
        }
        c.due(one + " has some twenty fields", fields <= 20 ? 1 : 0, 1);
        for (Method method : one.getDeclaredMethods()) {
            c.due(method + " takes seven at most", method.getParameterCount() <= 7 ? 1 : 0, 1);
        }
    }

    private static void text(String whole) {
        String code = whole.replaceAll("(?s)/\\*.*?\\*/", " ").replaceAll("//[^\n]*", " ");
        // the arrow of a case is no lambda's
        code = code.replaceAll("(case [^:;{}]*|default )->", "$1:");
        String banned = "\\b(throw|throws|try|catch|synchronized|assert|package|protected|hashCode|Object)\\b"
            + "|System\\.(?!arraycopy)|Exact\\b|->|::|while \\(true";
        Matcher found = Pattern.compile(banned).matcher(code.replaceAll("\"[^\"\n]*\"", "\"\""));
        c.due("a banned word", found.find() ? found.start() + 1 : 0, 0);
        c.due("a sign that is none of 1 to 127", whole.chars().filter(n -> n < 1 || n > 127).count(), 0);
        Matcher imports = Pattern.compile("import (.*);").matcher(code);
        while (imports.find()) {
            c.due("import " + imports.group(1), IMPORTS.contains(imports.group(1)) ? 1 : 0, 1);
        }
        int start = 0;
        String[] lines = whole.split("\n");
        for (int n = 0; n < lines.length; n++) {
            if (lines[n].matches(" +[^=]*\\) \\{") && !lines[n].matches(" +(\\} else )?(if|for|while|switch).*")) {
                start = n;
            }
            if (lines[n].matches(" {4,8}\\}")) {
                c.due("line " + (n + 1) + ": a method of some sixty lines", n - start <= 60 ? 1 : 0, 1);
            }
        }
    }
}
