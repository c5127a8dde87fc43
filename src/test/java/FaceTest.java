import java.io.IOException;
import java.lang.reflect.Constructor;
import java.lang.reflect.Field;
import java.lang.reflect.Method;
import java.lang.reflect.Modifier;
import java.nio.file.Files;
import java.nio.file.Path;
import java.util.List;
import java.util.Set;
import java.util.TreeSet;
import java.util.regex.Matcher;
import java.util.regex.Pattern;

/** The public face, and those rules of LANGUAGE.md that the class or its text can show. */
public final class FaceTest {
    private static final Set<String> FACE = new TreeSet<>(List.of(
            "int status()", "boolean page(int, int)", "int line(int)", "boolean change(int, int)",
            "int note(int, int, int, int, int)", "int answer(int, int)", "int cut(int, int)", "boolean cutting(int)",
            "boolean bind(int, int)", "boolean fix(int, int)", "boolean loose(int)", "boolean move(int, int)",
            "boolean show(int)", "boolean keep(boolean)", "int told(int, int)", "int pages()", "int pageOf(int)",
            "int top(int)", "int side(int)", "int place(int)", "int rest(int)", "int column(int, int)",
            "int bracket(int, int, boolean)", "int cost(int)", "int runs(int, int)", "int moved(int)"));
    private static int wrong = 0;

    public static void main(String[] args) throws IOException {
        lookAtFace();
        lookAtClasses();
        lookAtText(Files.readString(Path.of("src/main/java/EdgeNotes.java")));
        System.out.println(wrong == 0 ? "the face is as due" : wrong + " faults of the face");
        if (wrong != 0) System.exit(1);
    }

    private static void need(boolean held, String what) {
        if (!held) { wrong++; System.out.println(what); }
    }

    private static void lookAtFace() {
        Class<?> face = EdgeNotes.class;
        need(Modifier.isPublic(face.getModifiers()) && Modifier.isFinal(face.getModifiers()), "the class is not public and final");
        Set<String> seen = new TreeSet<>();
        for (Method method : face.getDeclaredMethods()) {
            StringBuilder types = new StringBuilder();
            for (Class<?> type : method.getParameterTypes()) types.append(types.length() == 0 ? "" : ", ").append(type.getName());
            if (!Modifier.isPrivate(method.getModifiers())) seen.add(method.getReturnType().getName() + " " + method.getName() + "(" + types + ")");
        }
        need(seen.equals(FACE), "the methods are " + seen);
        Constructor<?>[] makers = face.getDeclaredConstructors();
        need(makers.length == 1 && makers[0].getParameterCount() == 0 && Modifier.isPublic(makers[0].getModifiers()), "not just one constructor");
        for (Field field : face.getDeclaredFields())
            need(Modifier.isPrivate(field.getModifiers()) || field.getName().equals("NONE"), "a field is seen: " + field);
    }

    private static void lookAtClasses() {
        Set<String> names = new TreeSet<>();
        for (String method : FACE) names.add(method.replaceAll("^\\w+ (\\w+)\\(.*", "$1"));
        Class<?>[] inside = EdgeNotes.class.getDeclaredClasses();
        need(inside.length <= 11, "more than twelve classes");
        for (Class<?> own : inside) {
            need(Modifier.isStatic(own.getModifiers()), own + " is not static");
            need(own.getDeclaredFields().length <= 20, own + " has more than twenty fields");
            for (Method method : own.getDeclaredMethods()) need(!names.contains(method.getName()), "a public name again: " + method);
        }
        for (Method method : EdgeNotes.class.getDeclaredMethods())
            need(!Modifier.isPrivate(method.getModifiers()) || !names.contains(method.getName()), "a public name again: " + method);
    }

    private static void lookAtText(String text) {
        String code = text.replaceAll("(?s)/\\*.*?\\*/", " ").replaceAll("//[^\n]*", " ");
        Matcher bad = Pattern.compile("\\b(throw|throws|try|catch|synchronized|assert|import|package|protected|Object|System|Random|Thread)\\b|->|::").matcher(code);
        while (bad.find()) need(false, "the text has " + bad.group());
        for (char sign : text.toCharArray()) if (sign > 127) { need(false, "the text has the sign " + sign); break; }
    }
}
