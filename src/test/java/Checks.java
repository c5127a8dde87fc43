import java.lang.reflect.InvocationTargetException;
import java.lang.reflect.Method;
import java.lang.reflect.Modifier;
import java.util.ArrayList;
import java.util.Comparator;
import java.util.List;

/** What the tests with answers worked out by hand have in common: one object at a time and what is due of it. */
abstract class Checks {
    private static int wrong = 0;
    private static String part = "";
    static EdgeNotes x = new EdgeNotes();

    /** The part that follows, by the promise or the sentence that it tests, on a new object. */
    static void begin(String name) {
        part = name;
        x = new EdgeNotes();
    }

    /** Runs each method of the class that takes nothing and gives nothing, so that none can be left out. */
    static void runAll(Class<?> tests) throws IllegalAccessException {
        List<Method> found = new ArrayList<>();
        for (Method method : tests.getDeclaredMethods()) {
            boolean isTest = Modifier.isStatic(method.getModifiers()) && !method.isSynthetic()
                    && method.getParameterCount() == 0 && method.getReturnType() == void.class;
            if (isTest) found.add(method);
        }
        found.sort(Comparator.comparing(Method::getName));
        for (Method method : found) {
            method.setAccessible(true);
            begin(method.getName());
            try {
                method.invoke(null);
            } catch (InvocationTargetException thrown) {
                wrong++;
                System.out.println(part + ": threw " + thrown.getCause());
            }
        }
        System.out.println(found.size() + " parts");
        end();
    }

    /** Some method of the class begins with that name. */
    static void needPart(String name, Class<?> tests) {
        for (Method method : tests.getDeclaredMethods()) if (method.getName().startsWith(name)) return;
        wrong++;
        System.out.println("no part of " + tests.getName() + " begins with " + name);
    }

    static void end() {
        System.out.println(wrong == 0 ? "all answers are as due" : wrong + " answers are not as due");
        if (wrong != 0) System.exit(1);
    }

    static void due(String what, int got, int want) {
        if (got != want) {
            wrong++;
            System.out.println(part + ": " + what + " answered " + got + ", due is " + want);
        }
    }

    /** The answer of a call that is done, so STATUS is 0. */
    static void is(String what, int got, int want) {
        int status = x.status();
        due(what, got, want);
        due("status() behind " + what, status, 0);
    }

    static void done(String what, boolean got) {
        is(what, got ? 1 : 0, 1);
    }

    static void not(String what, int got, int why) {
        int status = x.status();
        due(what, got, EdgeNotes.NONE);
        due("status() behind " + what, status, why);
    }

    static void not(String what, boolean got, int why) {
        int status = x.status();
        due(what, got ? 1 : 0, 0);
        due("status() behind " + what, status, why);
    }

    static void lines(int... heights) {
        for (int height : heights) x.line(height);
    }

    /** A NOTE of WEIGHT 1 in LAYER 0. */
    static int plain(int line, int height, int side) {
        return x.note(line, height, 1, side, 0);
    }

    static void stands(int note, int side, int place, int rest) {
        is("side(" + note + ")", x.side(note), side);
        is("place(" + note + ")", x.place(note), place);
        is("rest(" + note + ")", x.rest(note), rest);
    }

    /** Every LINE from 0 on is on the PAGE that is told for it. */
    static void pagesOf(int... pages) {
        for (int line = 0; line < pages.length; line++) is("pageOf(" + line + ")", x.pageOf(line), pages[line]);
    }

    /** All that a small book answers, for that many LINES, NOTES and PAGES, each with its STATUS. */
    static String look(int lines, int notes, int pages) {
        StringBuilder all = new StringBuilder();
        add(all, "pages()", x.pages());
        for (int line = 0; line < lines; line++) {
            add(all, "pageOf(" + line + ")", x.pageOf(line));
            add(all, "top(" + line + ")", x.top(line));
        }
        for (int note = 0; note < notes; note++) {
            for (int what = 0; what < 10; what++) add(all, "told(" + note + ", " + what + ")", x.told(note, what));
            add(all, "side(" + note + ")", x.side(note));
            add(all, "place(" + note + ")", x.place(note));
            add(all, "rest(" + note + ")", x.rest(note));
            for (int page = 0; page < pages; page++) {
                add(all, "column(" + note + ", " + page + ")", x.column(note, page));
                add(all, "bracket end(" + note + ", " + page + ")", x.bracket(note, page, true));
            }
        }
        for (int page = 0; page < pages; page++) {
            add(all, "cost(" + page + ")", x.cost(page));
            add(all, "runs(" + page + ", 0)", x.runs(page, 0));
            add(all, "runs(" + page + ", 1)", x.runs(page, 1));
            add(all, "moved(" + page + ")", x.moved(page));
        }
        return all.toString();
    }

    private static void add(StringBuilder all, String call, int answer) {
        all.append(call).append(" = ").append(answer).append(" (").append(x.status()).append(")\n");
    }

    static void same(String what, String got, String want) {
        if (got.equals(want)) return;
        wrong++;
        String[] now = got.split("\n"), then = want.split("\n");
        for (int i = 0; i < Math.min(now.length, then.length); i++)
            if (!now[i].equals(then[i])) System.out.println(part + ": " + what + ": " + now[i] + ", due is " + then[i]);
    }
}
