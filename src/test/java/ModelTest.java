import java.util.ArrayDeque;
import java.util.Deque;
import java.util.Random;

/** Random runs of calls: every answer and every STATUS is the one that the plain model has. */
public final class ModelTest {
    private static final int MOST_CALLS = 512;
    private static int wrong = 0;
    private static final int[] SEEN = new int[9];
    private static int cutSeen = 0, bareSeen = 0, bothCarried = 0, deepColumns = 0;

    private final Random random;
    private final boolean grid;
    private final EdgeNotes x = new EdgeNotes();
    private final PlainModel m;
    private final Deque<String> told = new ArrayDeque<>();
    private int calls;
    private boolean failed;

    private ModelTest(long seed, boolean grid) {
        random = new Random(seed);
        this.grid = grid;
        m = new PlainModel(grid);
    }

    public static void main(String[] args) {
        int small = args.length > 0 ? Integer.parseInt(args[0]) : 6000;
        int large = args.length > 1 ? Integer.parseInt(args[1]) : 1200;
        for (int i = 0; i < small; i++) new ModelTest(i, false).run();
        for (int i = 0; i < large; i++) new ModelTest(1_000_000 + i, true).run();
        for (int s = 0; s < SEEN.length; s++) need(SEEN[s] > 0, "no call had STATUS " + s);
        need(cutSeen > 0, "no note was cut");
        need(bareSeen > 0, "no page was without lines");
        need(bothCarried > 0, "no page had something carried on both sides");
        need(deepColumns > 0, "no bracket was in column 2 or beyond");
        if (args.length > 0) System.out.println(java.util.Arrays.toString(SEEN) + " " + cutSeen + " " + bareSeen + " " + bothCarried + " " + deepColumns);
        System.out.println(wrong == 0 ? "all answers are as the model's" : wrong + " answers are not the model's");
        if (wrong != 0) System.exit(1);
    }

    private static void need(boolean held, String what) {
        if (!held) { wrong++; System.out.println("the runs are too tame: " + what); }
    }

    private void run() {
        int size = 10 + random.nextInt(grid ? 391 : 8);
        int gap = random.nextInt(grid ? 6 : 3);
        checkFlag("page(" + size + ", " + gap + ")", x.page(size, gap), m.page(size, gap));
        int lines = 1 + random.nextInt(grid ? 60 : 5);
        for (int i = 0; i < lines; i++) addLine();
        while (mayCall() && calls < MOST_CALLS - 120) {
            mutate();
            for (int i = 0; i < 3 && m.breaks() == null && random.nextInt(8) != 0; i++) mend();
            if (random.nextInt(3) == 0) for (int i = random.nextInt(8); i >= 0 && mayCall(); i--) ask();
        }
        look();
        while (mayCall()) ask();
    }

    /** Behind its last call a book answers as it likes; a check is a call and its status(). */
    private boolean mayCall() {
        return !failed && calls + 2 <= MOST_CALLS;
    }

    private void addLine() {
        int h = 1 + random.nextInt(grid ? 20 : 6);
        check("line(" + h + ")", x.line(h), m.line(h));
    }

    /** Mostly a number that can be, at times the ones just beside, at times a wild one. */
    private int number(int least, int most) {
        int kind = random.nextInt(60);
        if (kind == 0) return least - 1;
        if (kind == 1) return most + 1;
        if (kind == 2) return random.nextBoolean() ? Integer.MIN_VALUE : Integer.MAX_VALUE;
        if (kind == 3) return random.nextInt();
        if (kind == 4) return least;
        if (kind == 5) return most;
        return least + random.nextInt(Math.max(1, most - least + 1));
    }
    private int anyLine() { return number(0, m.lines.size() - 1); }
    private int anyNote() { return number(0, m.notes.size() - 1); }

    private void mutate() {
        int most = grid ? 24 : 5;
        int k = anyNote(), l = anyLine();
        switch (random.nextInt(m.notes.size() < most / 2 ? 26 : 19)) {
            case 0: {
                int h = number(grid ? 100 : 10, grid ? 400 : 20), g = number(0, grid ? 20 : 3);
                if (!grid && h > 20 && h <= 400) h = 20;
                checkFlag("page(" + h + ", " + g + ")", x.page(h, g), m.page(h, g));
                break;
            }
            case 1: addLine(); break;
            case 2: {
                int h = number(1, grid ? 50 : 8);
                checkFlag("change(" + l + ", " + h + ")", x.change(l, h), m.change(l, h));
                break;
            }
            case 3: case 4: {
                int h = number(1, grid ? 30 : 5);
                check("answer(" + k + ", " + h + ")", x.answer(k, h), m.answer(k, h));
                break;
            }
            case 5: case 6: case 7: case 8: {
                int tall = k >= 0 && k < m.notes.size() ? m.notes.get(k).height : 5;
                int at = number(1, tall - 1);
                check("cut(" + k + ", " + at + ")", x.cut(k, at), m.cut(k, at));
                break;
            }
            case 9: {
                int c = random.nextInt(3) == 0 ? number(0, 1000) : number(0, 20);
                checkFlag("cutting(" + c + ")", x.cutting(c), m.cutting(c));
                break;
            }
            case 10: case 11: {
                int to = random.nextInt(6) == 0 ? -1 : Math.max(l, k >= 0 && k < m.notes.size() ? m.notes.get(k).line : 0);
                if (random.nextInt(10) == 0) to = l;
                checkFlag("bind(" + k + ", " + to + ")", x.bind(k, to), m.bind(k, to));
                break;
            }
            case 12: {
                int p = random.nextInt(8) == 0 ? number(0, 400) : number(0, m.height);
                checkFlag("fix(" + k + ", " + p + ")", x.fix(k, p), m.fix(k, p));
                break;
            }
            case 13: case 17: checkFlag("loose(" + k + ")", x.loose(k), m.loose(k)); break;
            case 14: checkFlag("move(" + k + ", " + l + ")", x.move(k, l), m.move(k, l)); break;
            case 15: {
                int s = random.nextInt(3) == 0 ? number(0, 15) : 15;
                checkFlag("show(" + s + ")", x.show(s), m.show(s));
                break;
            }
            case 16: {
                boolean on = random.nextBoolean();
                checkFlag("keep(" + on + ")", x.keep(on), m.keep(on));
                break;
            }
            default: {
                if (!grid && m.notes.size() >= most) break;
                int h = random.nextInt(4) == 0 ? number(1, 100) : number(1, grid ? 40 : 9);
                if (!grid && h > 24 && h <= 100) h = 24;
                int w = number(1, random.nextBoolean() ? 20 : 3), s = number(0, 2), y = number(0, 3);
                check("note(" + l + ", " + h + ", " + w + ", " + s + ", " + y + ")", x.note(l, h, w, s, y), m.note(l, h, w, s, y));
                int made = m.notes.size() - 1;
                for (int i = random.nextInt(3); i > 0 && made >= 0; i--) {
                    int at = number(1, m.notes.get(made).height - 1);
                    check("cut(" + made + ", " + at + ")", x.cut(made, at), m.cut(made, at));
                }
            }
        }
    }

    /** Most questions have little to say without BREAKS, so something that stood in their way is taken back. */
    private void mend() {
        int k = m.notes.isEmpty() ? 0 : random.nextInt(m.notes.size());
        switch (random.nextInt(4)) {
            case 0: checkFlag("loose(" + k + ")", x.loose(k), m.loose(k)); break;
            case 1: {
                int h = grid ? 400 : 20, g = random.nextInt(2);
                checkFlag("page(" + h + ", " + g + ")", x.page(h, g), m.page(h, g));
                break;
            }
            case 2: {
                int s = random.nextInt(16);
                checkFlag("show(" + s + ")", x.show(s), m.show(s));
                checkFlag("keep(false)", x.keep(false), m.keep(false));
                break;
            }
            default: {
                int l = m.lines.isEmpty() ? 0 : random.nextInt(m.lines.size());
                checkFlag("move(" + k + ", " + l + ")", x.move(k, l), m.move(k, l));
            }
        }
    }

    private void ask() {
        int k = anyNote(), l = anyLine();
        int p = number(0, m.breaks() == null ? 0 : m.breaks().size() - 1);
        switch (random.nextInt(13)) {
            case 0: check("pages()", x.pages(), m.pages()); break;
            case 1: check("pageOf(" + l + ")", x.pageOf(l), m.pageOf(l)); break;
            case 2: check("top(" + l + ")", x.top(l), m.top(l)); break;
            case 3: check("side(" + k + ")", x.side(k), m.stands(k, 0)); break;
            case 4: case 5: check("place(" + k + ")", x.place(k), m.stands(k, 1)); break;
            case 6: check("rest(" + k + ")", x.rest(k), m.stands(k, 2)); break;
            case 7: {
                int what = number(0, 9);
                check("told(" + k + ", " + what + ")", x.told(k, what), m.told(k, what));
                break;
            }
            case 8: check("column(" + k + ", " + p + ")", x.column(k, p), m.bracket(k, p, 0)); break;
            case 9: {
                boolean end = random.nextBoolean();
                check("bracket(" + k + ", " + p + ", " + end + ")", x.bracket(k, p, end), m.bracket(k, p, end ? 2 : 1));
                break;
            }
            case 10: check("cost(" + p + ")", x.cost(p), m.cost(p)); break;
            case 11: {
                int s = number(0, 1);
                check("runs(" + p + ", " + s + ")", x.runs(p, s), m.runs(p, s));
                break;
            }
            default: check("moved(" + p + ")", x.moved(p), m.moved(p));
        }
    }

    /** Counts what the model has, to see that the runs are not too tame. */
    private void look() {
        if (m.breaks() == null) return;
        int pages = m.breaks().size();
        for (int k = 0; k < m.notes.size(); k++) {
            if (m.stands(k, 2)[0] > 0) cutSeen++;
            for (int p = 0; p < pages; p++) if (m.bracket(k, p, 0)[0] >= 2) deepColumns++;
        }
        for (PlainModel.Page p : m.breaks()) {
            if (p.first == p.end) bareSeen++;
            if (p.carried[0] > 0 && p.carried[1] > 0) bothCarried++;
        }
    }

    private void checkFlag(String call, boolean got, int[] due) {
        check(call, got ? 1 : EdgeNotes.NONE, due);
    }

    private void check(String call, int got, int[] due) {
        told.add(call);
        int status = x.status();
        calls += 2;
        SEEN[due[1]]++;
        if (got == due[0] && status == due[1]) return;
        wrong++;
        if (!failed) System.out.println(call + " answered " + got + " (" + status + "), due is " + due[0] + " (" + due[1] + ") after " + told);
        failed = true;
    }
}
