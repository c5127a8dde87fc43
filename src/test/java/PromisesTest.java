/** A part for each promise of the document, with answers that were worked out by hand. */
public final class PromisesTest extends Checks {
    public static void main(String[] args) throws IllegalAccessException {
        runAll(PromisesTest.class);
    }

    private static void newObject() {
        begin("promise 1");
        due("NONE", EdgeNotes.NONE, -1);
        due("status()", x.status(), 0);
        is("pages()", x.pages(), 0);
        not("top(0)", x.top(0), 1);
        not("told(0, 0)", x.told(0, 0), 1);
        lines(50, 50);
        is("pages() of HEIGHT 100", x.pages(), 1);
        lines(1);
        is("pages() above HEIGHT 100", x.pages(), 2);
        for (int layer = 0; layer < 4; layer++) {
            x.note(0, 10, 1, 0, layer);
            is("told(layer, 7)", x.told(layer, 7), 1);
            is("place by GAP 2", x.place(layer), 12 * layer);
        }
        x.show(8);
        is("KEEP is off", x.place(3), 0);
        begin("promise 1, CUTTING 50");
        lines(50, 50);
        x.note(1, 55, 10, 0, 0);
        x.cut(0, 50);
        is("10 times 5 is no more than a cut", x.rest(0), 0);
        is("cost(0)", x.cost(0), 50);
        x.note(1, 56, 10, 1, 0);
        x.cut(1, 50);
        is("10 times 6 is", x.rest(1), 6);
        is("cost(0)", x.cost(0), 100);
    }

    private static void statusOfCalls() {
        begin("promise 2");
        not("line(0)", x.line(0), 2);
        due("status() again", x.status(), 2);
        due("status() once more", x.status(), 2);
        is("line(1)", x.line(1), 0);
        not("change(1, 1)", x.change(1, 1), 1);
        not("change(1, 0): the first that holds", x.change(1, 0), 1);
        not("change(0, 0)", x.change(0, 0), 2);
        is("pages()", x.pages(), 1);
        not("a refused call changes nothing", x.note(0, 1, 0, 0, 0), 2);
        not("told(0, 0)", x.told(0, 0), 1);
    }

    private static void pageNumbers() {
        begin("promise 3");
        not("page(9, 0)", x.page(9, 0), 2);
        not("page(401, 0)", x.page(401, 0), 2);
        not("page(10, -1)", x.page(10, -1), 2);
        not("page(10, 21)", x.page(10, 21), 2);
        lines(5, 6);
        is("pages() unchanged", x.pages(), 1);
        done("page(10, 0)", x.page(10, 0));
        is("pages()", x.pages(), 2);
        done("page(400, 20)", x.page(400, 20));
        is("pages()", x.pages(), 1);
        x.note(0, 1, 1, 0, 0);
        x.note(0, 1, 1, 0, 0);
        is("place(1) by GAP 20", x.place(1), 21);
        not("page(100, 21)", x.page(100, 21), 2);
        is("place(1) still by GAP 20", x.place(1), 21);
    }

    private static void linesComeAndChange() {
        begin("promise 4");
        not("line(51)", x.line(51), 2);
        not("line(-1)", x.line(-1), 2);
        is("line(50)", x.line(50), 0);
        for (int i = 1; i < 60; i++) is("line(1)", x.line(1), i);
        not("line(1), one too many", x.line(1), 3);
        not("line(0), 2 is ahead of 3", x.line(0), 2);
        is("top(50)", x.top(50), 99);
        is("top(51)", x.top(51), 0);
        begin("promise 5");
        not("change(0, 1)", x.change(0, 1), 1);
        lines(10, 10);
        not("change(-1, 1)", x.change(-1, 1), 1);
        not("change(2, 1)", x.change(2, 1), 1);
        not("change(0, 51)", x.change(0, 51), 2);
        is("top(1)", x.top(1), 10);
        done("change(0, 50)", x.change(0, 50));
        is("top(1)", x.top(1), 50);
        done("change(0, 1)", x.change(0, 1));
        is("top(1)", x.top(1), 1);
        done("change(0, 1) again", x.change(0, 1));
    }

    private static void notesCome() {
        begin("promise 6");
        not("note without a line", x.note(0, 1, 1, 0, 0), 1);
        lines(10);
        not("note(-1)", x.note(-1, 1, 1, 0, 0), 1);
        not("note(1): 1 is ahead of 2", x.note(1, 0, 1, 0, 0), 1);
        not("height 0", x.note(0, 0, 1, 0, 0), 2);
        not("height 101", x.note(0, 101, 1, 0, 0), 2);
        not("weight 0", x.note(0, 1, 0, 0, 0), 2);
        not("weight 21", x.note(0, 1, 21, 0, 0), 2);
        not("side -1", x.note(0, 1, 1, -1, 0), 2);
        not("side 3", x.note(0, 1, 1, 3, 0), 2);
        not("layer -1", x.note(0, 1, 1, 0, -1), 2);
        not("layer 4", x.note(0, 1, 1, 0, 4), 2);
        is("the greatest numbers", x.note(0, 100, 20, 2, 3), 0);
        is("the least numbers", x.note(0, 1, 1, 0, 0), 1);
        for (int i = 2; i < 24; i++) is("note", x.note(0, 1, 1, 1, 0), i);
        not("2 is ahead of 3", x.note(0, 0, 1, 1, 0), 2);
        not("one too many", x.note(0, 1, 1, 1, 0), 3);
    }

    private static void answersHang() {
        begin("promise 7");
        lines(10, 10);
        x.note(0, 5, 1, 0, 0);
        x.note(1, 5, 1, 0, 0);
        not("answer(-1, 1)", x.answer(-1, 1), 1);
        not("answer(2, 0)", x.answer(2, 0), 1);
        not("answer(0, 0)", x.answer(0, 0), 2);
        not("answer(0, 101)", x.answer(0, 101), 2);
        is("answer(0, 3)", x.answer(0, 3), 1);
        is("no GAP within, one behind", x.place(1), 10);
        is("answer(0, 4)", x.answer(0, 4), 2);
        is("place(1) below both answers", x.place(1), 14);
        is("TALL", x.told(0, 5), 12);
        is("answer(0, 1)", x.answer(0, 1), 3);
        is("answer(0, 100)", x.answer(0, 100), 4);
        not("one too many", x.answer(0, 1), 3);
        not("2 is ahead of 3", x.answer(0, 0), 2);
        not("a note of TALL 113", x.pages(), 6);
        x.cut(1, 2);
        not("a LONG note has no answers", x.answer(1, 1), 7);
        not("2 is ahead of 7", x.answer(1, 0), 2);
        is("TALL of the LONG note", x.told(1, 5), 5);
    }

    private static void cutsAndCutting() {
        begin("promise 8");
        lines(10);
        x.note(0, 10, 1, 0, 0);
        x.note(0, 1, 1, 0, 0);
        x.note(0, 10, 1, 0, 0);
        x.answer(2, 1);
        not("cut(3, 1)", x.cut(3, 1), 1);
        not("cut(-1, 0)", x.cut(-1, 0), 1);
        not("cut(0, 0)", x.cut(0, 0), 2);
        not("cut(0, 10): not below its HEIGHT", x.cut(0, 10), 2);
        not("cut(1, 1): HEIGHT 1 has no place for one", x.cut(1, 1), 2);
        not("cut(2, 5): it has answers", x.cut(2, 5), 7);
        not("cut(2, 10): 2 is ahead of 7", x.cut(2, 10), 2);
        is("cut(0, 9)", x.cut(0, 9), 1);
        not("cut(0, 9) again", x.cut(0, 9), 4);
        is("cut(0, 1)", x.cut(0, 1), 2);
        is("told(0, 8)", x.told(0, 8), 2);
        is("cut(0, 5)", x.cut(0, 5), 3);
        not("cut(0, 5): 3 is ahead of 4", x.cut(0, 5), 3);
        not("cut(0, 4)", x.cut(0, 4), 3);
        not("cut(0, 0): 2 is ahead of 3", x.cut(0, 0), 2);
        begin("promise 9");
        not("cutting(-1)", x.cutting(-1), 2);
        not("cutting(1001)", x.cutting(1001), 2);
        done("cutting(1000)", x.cutting(1000));
        x.page(20, 0);
        lines(10, 10);
        x.note(1, 20, 5, 0, 0);
        x.cut(0, 10);
        stands(0, 0, 0, 0);
        is("cost(0): 5 times 10", x.cost(0), 50);
        done("cutting(50)", x.cutting(50));
        stands(0, 0, 0, 0);
        done("cutting(49)", x.cutting(49));
        stands(0, 0, 10, 10);
        is("cost(0): the cut", x.cost(0), 49);
        done("cutting(0)", x.cutting(0));
        is("cost(0)", x.cost(0), 0);
        not("cutting(1001) changes nothing", x.cutting(1001), 2);
        is("cost(0)", x.cost(0), 0);
    }

    private static void binding() {
        begin("promise 10");
        lines(10, 10, 10);
        x.note(1, 5, 1, 0, 0);
        not("bind(1, 1)", x.bind(1, 1), 1);
        not("bind(-1, NONE)", x.bind(-1, -1), 1);
        not("bind(0, 3)", x.bind(0, 3), 1);
        not("bind(0, -2)", x.bind(0, -2), 1);
        not("bind(0, 0): ahead of its own", x.bind(0, 0), 2);
        is("not BOUND", x.told(0, 9), -1);
        done("bind(0, NONE), as it was", x.bind(0, -1));
        done("bind(0, 1): its own line", x.bind(0, 1));
        is("bracket(0, 0, true)", x.bracket(0, 0, true), 20);
        done("bind(0, 2)", x.bind(0, 2));
        done("bind(0, 2) again", x.bind(0, 2));
        is("told(0, 9)", x.told(0, 9), 2);
        is("bracket(0, 0, true)", x.bracket(0, 0, true), 30);
        done("move to the end of the span", x.move(0, 2));
        is("told(0, 9)", x.told(0, 9), 2);
        done("move to the first line", x.move(0, 0));
        is("the span begins with its line", x.bracket(0, 0, false), 0);
        x.bind(0, 1);
        done("move behind the end of the span", x.move(0, 2));
        is("BOUND no more", x.told(0, 9), -1);
        not("no bracket", x.bracket(0, 0, true), 8);
        x.bind(0, 2);
        done("bind(0, NONE)", x.bind(0, -1));
        is("told(0, 9)", x.told(0, 9), -1);
    }

    private static void fixingAndLoosing() {
        begin("promise 11");
        lines(10, 10);
        x.note(1, 10, 2, 0, 0);
        x.note(1, 10, 2, 0, 0);
        not("fix(2, 0)", x.fix(2, 0), 1);
        not("fix(0, -1)", x.fix(0, -1), 2);
        not("fix(0, 401)", x.fix(0, 401), 2);
        is("told(0, 6)", x.told(0, 6), -1);
        done("fix(0, 90)", x.fix(0, 90));
        not("no room below it", x.pages(), 6);
        done("fix(0, 78)", x.fix(0, 78));
        stands(0, 0, 78, 0);
        stands(1, 0, 90, 0);
        is("a FIXED note costs nothing", x.cost(0), 160);
        done("fix(0, 78) again", x.fix(0, 78));
        done("fix(1, 89): GAP is not kept", x.fix(1, 89));
        not("no SETTING", x.place(0), 6);
        done("fix(1, 91): beyond the page", x.fix(1, 91));
        not("no SETTING", x.place(0), 6);
        done("fix(1, 400)", x.fix(1, 400));
        not("no SETTING", x.side(0), 6);
        begin("promise 12");
        lines(10, 10);
        x.note(1, 10, 2, 0, 0);
        not("loose(1)", x.loose(1), 1);
        not("loose(0)", x.loose(0), 4);
        x.fix(0, 0);
        is("place(0)", x.place(0), 0);
        done("loose(0)", x.loose(0));
        is("place(0)", x.place(0), 10);
        is("told(0, 6)", x.told(0, 6), -1);
        not("loose(0) again", x.loose(0), 4);
    }

    private static void movingNotes() {
        begin("promise 13");
        lines(10, 10, 10);
        x.note(1, 5, 1, 0, 0);
        x.note(1, 5, 1, 0, 0);
        not("move(2, 0)", x.move(2, 0), 1);
        not("move(0, 3)", x.move(0, 3), 1);
        not("move(0, -1)", x.move(0, -1), 1);
        not("move(0, 1)", x.move(0, 1), 4);
        is("ORDER by number", x.place(0), 10 - 7);
        done("move(0, 2)", x.move(0, 2));
        is("told(0, 0)", x.told(0, 0), 2);
        is("place(0)", x.place(0), 20);
        is("place(1)", x.place(1), 10);
        done("move(1, 2)", x.move(1, 2));
        is("ORDER by number again", x.place(0), 13);
        is("place(1)", x.place(1), 20);
    }

    private static void showingAndKeeping() {
        begin("promise 14");
        lines(10);
        for (int layer = 0; layer < 4; layer++) x.note(0, 8, 1, 0, layer);
        not("show(-1)", x.show(-1), 2);
        not("show(16)", x.show(16), 2);
        for (int layer = 0; layer < 4; layer++) {
            done("show one layer", x.show(1 << layer));
            for (int note = 0; note < 4; note++) is("told(note, 7)", x.told(note, 7), note == layer ? 1 : 0);
            is("it stands as if alone", x.place(layer), 0);
            not("another is not SHOWN", x.place((layer + 1) % 4), 5);
            is("runs(0, 0)", x.runs(0, 0), 1);
        }
        done("show(10)", x.show(10));
        is("place(3)", x.place(3), 10);
        done("show(0)", x.show(0));
        is("runs(0, 0)", x.runs(0, 0), 0);
        is("pages()", x.pages(), 1);
        begin("promise 15");
        lines(10);
        for (int layer = 0; layer < 4; layer++) x.note(0, 8, 1, 0, layer);
        x.show(8);
        done("keep(true)", x.keep(true));
        is("what is hidden keeps its place", x.place(3), 30);
        not("a hidden one is not SHOWN still", x.place(0), 5);
        not("side of a hidden one", x.side(0), 5);
        not("rest of a hidden one", x.rest(0), 5);
        is("told(0, 7)", x.told(0, 7), 0);
        is("moved counts SET notes", x.moved(0), 3);
        is("cost counts SET notes", x.cost(0), 60);
        done("keep(true) again", x.keep(true));
        done("keep(false)", x.keep(false));
        is("place(3)", x.place(3), 0);
        is("cost(0)", x.cost(0), 0);
        x.note(0, 100, 1, 1, 0);
        x.note(0, 100, 1, 1, 0);
        is("hidden ones need no room", x.pages(), 1);
        x.keep(true);
        not("kept ones need it", x.pages(), 6);
        not("5 is ahead of 6", x.place(0), 5);
    }

    private static void tellingBack() {
        begin("promise 16");
        lines(10, 10, 10);
        x.note(1, 20, 3, 2, 3);
        not("told(-1, 0)", x.told(-1, 0), 1);
        not("told(1, 10): 1 is ahead of 2", x.told(1, 10), 1);
        not("told(0, -1)", x.told(0, -1), 2);
        not("told(0, 10)", x.told(0, 10), 2);
        int[] due = {1, 20, 3, 2, 3, 20, -1, 1, 0, -1};
        for (int what = 0; what < 10; what++) is("told(0, " + what + ")", x.told(0, what), due[what]);
        x.cut(0, 7);
        x.fix(0, 400);
        x.bind(0, 2);
        x.show(7);
        int[] then = {1, 20, 3, 2, 3, 20, 400, 0, 1, 2};
        for (int what = 0; what < 10; what++) is("told(0, " + what + ")", x.told(0, what), then[what]);
    }

    private static void pagesOfLines() {
        begin("promises 17, 18, 19");
        not("pageOf(0)", x.pageOf(0), 1);
        not("top(-1)", x.top(-1), 1);
        x.page(20, 0);
        lines(10, 10, 5, 15, 1, 20);
        is("pages()", x.pages(), 4);
        int[] page = {0, 0, 1, 1, 2, 3};
        int[] top = {0, 10, 0, 5, 0, 0};
        for (int line = 0; line < 6; line++) {
            is("pageOf(" + line + ")", x.pageOf(line), page[line]);
            is("top(" + line + ")", x.top(line), top[line]);
        }
        x.change(5, 21);
        not("a line above HEIGHT", x.pages(), 6);
        not("pageOf(0)", x.pageOf(0), 6);
        not("top(0)", x.top(0), 6);
        not("1 is ahead of 6", x.pageOf(6), 1);
        not("1 is ahead of 6", x.top(-1), 1);
    }

    private static void breaksOfHeldPages() {
        begin("at most 6 of SIDE EITHER");
        lines(1, 1, 1);
        for (int i = 0; i < 3; i++) x.note(0, 1, 1, 2, 0);
        for (int i = 0; i < 3; i++) x.note(1, 1, 1, 2, 0);
        is("pageOf(2) with 6", x.pageOf(2), 0);
        x.note(2, 1, 1, 2, 1);
        is("pageOf(2) with 7", x.pageOf(2), 1);
        x.show(1);
        is("pageOf(2), one hidden", x.pageOf(2), 0);
        x.keep(true);
        is("pageOf(2), it is kept", x.pageOf(2), 1);
        for (int i = 3; i < 7; i++) x.move(i, 0);
        not("7 on one line", x.pages(), 6);
    }

    private static void breaksOfNotes() {
        begin("as many lines as can be held");
        x.page(20, 2);
        lines(5, 5, 5);
        x.note(0, 9, 1, 1, 0);
        x.note(1, 9, 1, 1, 0);
        is("both fit to the unit", x.pageOf(1), 0);
        stands(0, 1, 0, 0);
        stands(1, 1, 11, 0);
        x.note(2, 1, 1, 1, 0);
        is("the third goes on", x.pageOf(2), 1);
        is("pageOf(1)", x.pageOf(1), 0);
        x.fix(2, 19);
        is("FIXED at the end of its own page", x.place(2), 19);
        x.fix(2, 20);
        not("FIXED beyond every page", x.pages(), 6);
    }

    private static void sidesOfEither() {
        begin("promise 20");
        x.page(100, 0);
        lines(10, 10);
        not("side(0)", x.side(0), 1);
        x.note(0, 10, 1, 2, 0);
        stands(0, 0, 0, 0);
        x.note(0, 10, 1, 2, 0);
        stands(0, 0, 0, 0);
        stands(1, 1, 0, 0);
        x.note(0, 10, 1, 0, 0);
        // left 0 and 2: 10; right 1: 0. The first note goes left, as that is ahead.
        stands(0, 0, 0, 0);
        stands(1, 1, 0, 0);
        stands(2, 0, 10, 0);
        x.note(0, 10, 9, 0, 0);
        // both EITHER right: 10 there, 10 for note 2 on the left
        stands(0, 1, 0, 0);
        stands(1, 1, 10, 0);
        is("cost(0)", x.cost(0), 100);
        x.show(0);
        not("side(0)", x.side(0), 5);
        x.show(15);
        x.change(0, 50);
        x.page(40, 0);
        not("side(0)", x.side(0), 6);
    }

    private static void placesNearLines() {
        begin("promise 21");
        x.page(100, 0);
        lines(40, 10);
        x.note(1, 20, 1, 0, 0);
        x.note(1, 20, 1, 0, 0);
        x.note(1, 20, 1, 0, 0);
        stands(0, 0, 20, 0);
        stands(1, 0, 40, 0);
        stands(2, 0, 60, 0);
        x.note(1, 20, 2, 0, 0);
        // weights 1 1 1 2: the median is the third
        stands(0, 0, 0, 0);
        stands(1, 0, 20, 0);
        stands(2, 0, 40, 0);
        stands(3, 0, 60, 0);
        is("cost(0)", x.cost(0), 40 + 20 + 0 + 40);
        x.note(1, 20, 1, 0, 0);
        is("no lower than the page", x.place(4), 80);
        is("place(0)", x.place(0), 0);
        begin("promise 21, the lesser TOP");
        x.page(100, 0);
        lines(40, 10);
        x.note(1, 10, 3, 1, 0);
        x.note(1, 10, 3, 1, 0);
        stands(0, 1, 30, 0);
        stands(1, 1, 40, 0);
        x.fix(1, 45);
        stands(0, 1, 35, 0);
        not("place(2)", x.place(2), 1);
        x.fix(1, 9);
        not("place(0)", x.place(0), 6);
    }

    private static void tiesOfCuts() {
        begin("promise 22, ties");
        x.page(20, 0);
        x.cutting(0);
        lines(10, 10);
        x.note(0, 10, 1, 0, 0);
        x.cut(0, 4);
        stands(0, 0, 0, 0);
        x.move(0, 1);
        stands(0, 0, 10, 0);
        begin("promise 22, ties above 0");
        x.page(20, 0);
        x.cutting(0);
        lines(10, 10);
        x.note(0, 5, 1, 0, 0);
        x.note(0, 5, 1, 0, 0);
        x.note(1, 10, 1, 0, 0);
        x.cut(2, 4);
        stands(2, 0, 10, 0);
        is("cost(0), cut or not", x.cost(0), 5);
        x.note(0, 5, 1, 1, 0);
        x.note(0, 5, 1, 1, 0);
        x.note(1, 20, 1, 1, 0);
        x.cut(5, 3);
        x.cut(5, 9);
        stands(5, 1, 10, 11);
        is("cost(0), 9 or 3", x.cost(0), 10);
        begin("promise 22, the greatest cut");
        x.page(20, 0);
        x.cutting(0);
        lines(10, 10);
        x.note(1, 20, 1, 0, 0);
        x.cut(0, 3);
        x.cut(0, 11);
        x.cut(0, 9);
        stands(0, 0, 10, 11);
        x.note(1, 20, 1, 1, 0);
        x.cut(1, 8);
        stands(1, 1, 10, 12);
        is("cost(0)", x.cost(0), 0);
        x.cutting(5);
        is("cost(0) of two cuts", x.cost(0), 10);
        x.fix(0, 0);
        stands(0, 0, 0, 0);
        is("a FIXED note is not cut", x.cost(0), 5);
        x.fix(0, 10);
        not("nor if it must be", x.rest(0), 6);
    }

    private static void carriedRests() {
        begin("promise 22");
        x.page(20, 1);
        lines(10, 10, 10, 10);
        not("rest(0)", x.rest(0), 1);
        x.note(0, 8, 1, 0, 0);
        x.note(1, 18, 1, 0, 0);
        is("the second goes to the next page", x.pageOf(1), 1);
        x.cut(1, 10);
        is("now it is cut", x.pageOf(1), 0);
        stands(0, 0, 0, 0);
        stands(1, 0, 10, 8);
        is("cost(0)", x.cost(0), 50);
        is("pageOf(3)", x.pageOf(3), 1);
        x.note(2, 5, 2, 0, 0);
        stands(2, 0, 9, 0);
        is("cost(1): 2 times 9", x.cost(1), 18);
        is("the rest and the note are one run", x.runs(1, 0), 1);
        is("moved(1)", x.moved(1), 1);
        x.fix(2, 10);
        is("runs(1, 0)", x.runs(1, 0), 2);
        x.fix(2, 8);
        is("GAP behind the rest, so the line goes on", x.pageOf(2), 2);
        is("pages()", x.pages(), 3);
        is("cost(1)", x.cost(1), 0);
        is("runs(1, 0)", x.runs(1, 0), 1);
        is("runs(1, 1)", x.runs(1, 1), 0);
        x.loose(2);
        x.show(0);
        not("rest(1)", x.rest(1), 5);
    }

    private static void carriedToABarePage() {
        begin("pages behind the last line");
        x.page(20, 0);
        lines(20);
        x.note(0, 30, 1, 1, 0);
        not("it is too tall", x.rest(0), 6);
        x.cut(0, 15);
        stands(0, 1, 0, 15);
        is("pages()", x.pages(), 2);
        is("cost(0)", x.cost(0), 50);
        is("cost(1)", x.cost(1), 0);
        is("runs(1, 1)", x.runs(1, 1), 1);
        is("moved(1)", x.moved(1), 0);
        not("cost(2)", x.cost(2), 1);
        x.bind(0, 0);
        not("a page without lines has no bracket", x.column(0, 1), 8);
        lines(5);
        is("a line comes to the rest", x.pageOf(1), 1);
        x.note(1, 6, 1, 1, 0);
        is("its note has no room there", x.pageOf(1), 2);
        is("pages()", x.pages(), 3);
        is("top(1)", x.top(1), 0);
        x.bind(0, 1);
        is("bracket(0, 0, true)", x.bracket(0, 0, true), 20);
        not("none on the page between", x.bracket(0, 1, true), 8);
        is("bracket(0, 2, true)", x.bracket(0, 2, true), 5);
    }

    private static void restsThatCantBe() {
        begin("a rest above HEIGHT");
        x.page(20, 0);
        lines(20);
        x.note(0, 50, 1, 0, 0);
        x.cut(0, 20);
        not("a rest of 30", x.pages(), 6);
        x.page(30, 0);
        x.cut(0, 30);
        stands(0, 0, 0, 20);
        is("pages()", x.pages(), 2);
        x.page(29, 0);
        not("30 above the end, 30 as a rest", x.pages(), 6);
        x.cut(0, 29);
        stands(0, 0, 0, 21);
        begin("only the last of a side is cut");
        x.page(20, 0);
        lines(10, 10);
        x.note(0, 30, 1, 0, 0);
        x.cut(0, 10);
        is("alone", x.rest(0), 20);
        x.note(1, 5, 1, 0, 0);
        is("the later one goes on", x.pageOf(1), 2);
        x.move(1, 0);
        not("both of one line", x.pages(), 6);
    }

    private static void columnsOfBrackets() {
        begin("promise 23");
        lines(10, 10, 10, 10, 10);
        for (int i = 0; i < 4; i++) x.note(i, 1, 1, 0, i);
        x.note(0, 1, 1, 1, 0);
        x.bind(0, 1);
        x.bind(1, 3);
        x.bind(2, 4);
        x.bind(3, 4);
        x.bind(4, 4);
        is("column(0, 0)", x.column(0, 0), 0);
        is("column(1, 0): meets the first", x.column(1, 0), 1);
        is("column(2, 0): 0 is free again", x.column(2, 0), 0);
        is("column(3, 0): meets both", x.column(3, 0), 2);
        is("column(4, 0): the other side", x.column(4, 0), 0);
        x.show(13);
        not("column(1, 0)", x.column(1, 0), 5);
        is("column(3, 0): one less", x.column(3, 0), 1);
        x.keep(true);
        is("column(3, 0): it is kept", x.column(3, 0), 2);
        x.keep(false);
        x.show(15);
        x.bind(1, -1);
        not("column(1, 0)", x.column(1, 0), 8);
        not("column(5, 9)", x.column(5, 9), 1);
        not("column(0, -1)", x.column(0, -1), 1);
        not("column(0, 1)", x.column(0, 1), 1);
        not("column(1, 1): 1 is ahead of 8", x.column(1, 1), 1);
        x.change(0, 50);
        x.page(40, 0);
        not("column(0, 9): 6 is ahead of 1", x.column(0, 9), 6);
        x.show(0);
        not("column(0, 9): 5 is ahead of 6", x.column(0, 9), 5);
        not("column(-1, 0): 1 is ahead of all", x.column(-1, 0), 1);
    }

    private static void bracketsOverPages() {
        begin("promise 24");
        x.page(20, 0);
        lines(5, 15, 10, 8, 20, 3);
        x.note(1, 1, 1, 2, 0);
        x.note(3, 1, 1, 0, 0);
        x.bind(0, 4);
        x.bind(1, 5);
        is("bracket(0, 0, false)", x.bracket(0, 0, false), 5);
        is("bracket(0, 0, true)", x.bracket(0, 0, true), 20);
        is("bracket(0, 1, false)", x.bracket(0, 1, false), 0);
        is("bracket(0, 1, true)", x.bracket(0, 1, true), 18);
        is("bracket(1, 1, false)", x.bracket(1, 1, false), 10);
        is("bracket(0, 2, true)", x.bracket(0, 2, true), 20);
        is("bracket(1, 3, true)", x.bracket(1, 3, true), 3);
        is("column(1, 2)", x.column(1, 2), 1);
        is("column(1, 3): alone there", x.column(1, 3), 0);
        not("bracket(0, 3, false)", x.bracket(0, 3, false), 8);
        not("bracket(1, 0, true)", x.bracket(1, 0, true), 8);
        not("bracket(0, 4, true)", x.bracket(0, 4, true), 1);
        not("bracket(2, 0, true)", x.bracket(2, 0, true), 1);
        x.page(19, 0);
        not("bracket(0, 4, true)", x.bracket(0, 4, true), 6);
        x.show(2);
        not("bracket(0, 0, true)", x.bracket(0, 0, true), 5);
    }

    private static void costsOfPages() {
        begin("promise 25");
        not("cost(0) without pages", x.cost(0), 1);
        lines(10, 50, 50);
        is("cost(0)", x.cost(0), 0);
        x.note(0, 10, 20, 0, 0);
        x.note(0, 10, 3, 0, 0);
        x.note(2, 60, 1, 1, 0);
        x.note(2, 40, 1, 1, 0);
        not("60, 2 and 40 are above 100", x.cost(0), 6);
        x.page(102, 2);
        is("cost(0)", x.cost(0), 36);
        is("cost(1)", x.cost(1), 62);
        not("cost(2)", x.cost(2), 1);
        not("cost(-1)", x.cost(-1), 1);
        x.page(100, 2);
        not("cost(-1): 6 is ahead of 1", x.cost(-1), 6);
    }

    private static void runsOfSides() {
        begin("promise 26");
        not("runs(0, 0) without pages", x.runs(0, 0), 1);
        lines(10, 10, 10);
        x.note(0, 8, 1, 0, 0);
        x.note(1, 7, 1, 0, 0);
        x.note(2, 7, 1, 0, 0);
        is("8 and 2 are 10, 7 and 2 are not", x.runs(0, 0), 2);
        is("runs(0, 1)", x.runs(0, 1), 0);
        x.answer(1, 1);
        is("with its answer it is near", x.runs(0, 0), 1);
        not("runs(0, 2)", x.runs(0, 2), 2);
        not("runs(0, -1)", x.runs(0, -1), 2);
        not("runs(1, 2): 2 is ahead of 1", x.runs(1, 2), 2);
        not("runs(1, 0)", x.runs(1, 0), 1);
        not("runs(-1, 0)", x.runs(-1, 0), 1);
        x.fix(0, 100);
        not("runs(1, 0): 6 is ahead of 1", x.runs(1, 0), 6);
        not("runs(1, 2): 2 is ahead of 6", x.runs(1, 2), 2);
    }

    private static void movedNotes() {
        begin("promise 27");
        not("moved(0) without pages", x.moved(0), 1);
        lines(10, 10);
        x.note(0, 8, 1, 0, 0);
        x.note(0, 8, 1, 0, 0);
        x.note(1, 8, 1, 1, 0);
        is("moved(0)", x.moved(0), 1);
        x.fix(2, 11);
        is("a FIXED one too", x.moved(0), 2);
        x.fix(2, 10);
        is("a FIXED one at the top of its line", x.moved(0), 1);
        not("moved(1)", x.moved(1), 1);
        not("moved(-1)", x.moved(-1), 1);
        x.fix(2, 400);
        not("moved(1): 6 is ahead of 1", x.moved(1), 6);
    }

    private static void wildNumbers() {
        begin("wild numbers");
        lines(10, 10);
        x.note(0, 8, 1, 2, 0);
        x.bind(0, 1);
        for (int wild : new int[] {Integer.MIN_VALUE, Integer.MAX_VALUE, -2, 1_000}) {
            not("page", x.page(wild, 0), 2);
            not("page", x.page(10, wild), 2);
            not("line", x.line(wild), 2);
            not("change", x.change(wild, 1), 1);
            not("change", x.change(0, wild), 2);
            not("note", x.note(wild, 1, 1, 0, 0), 1);
            not("note", x.note(0, wild, 1, 0, 0), 2);
            not("note", x.note(0, 1, wild, 0, 0), 2);
            not("note", x.note(0, 1, 1, wild, 0), 2);
            not("note", x.note(0, 1, 1, 0, wild), 2);
            not("answer", x.answer(wild, 1), 1);
            not("answer", x.answer(0, wild), 2);
            not("cut", x.cut(wild, 1), 1);
            not("cut", x.cut(0, wild), 2);
            not("bind", x.bind(wild, 0), 1);
            not("bind", x.bind(0, wild), 1);
            not("fix", x.fix(wild, 0), 1);
            not("fix", x.fix(0, wild), 2);
            not("loose", x.loose(wild), 1);
            not("move", x.move(wild, 0), 1);
            not("move", x.move(0, wild), 1);
            not("show", x.show(wild), 2);
            not("told", x.told(wild, 0), 1);
            not("told", x.told(0, wild), 2);
            not("pageOf", x.pageOf(wild), 1);
            not("top", x.top(wild), 1);
            not("side", x.side(wild), 1);
            not("place", x.place(wild), 1);
            not("rest", x.rest(wild), 1);
            not("column", x.column(wild, 0), 1);
            not("column", x.column(0, wild), 1);
            not("bracket", x.bracket(wild, 0, true), 1);
            not("bracket", x.bracket(0, wild, false), 1);
            not("cost", x.cost(wild), 1);
            not("runs", x.runs(wild, 0), 1);
            not("runs", x.runs(0, wild), 2);
            not("moved", x.moved(wild), 1);
        }
        not("cutting", x.cutting(Integer.MAX_VALUE), 2);
        not("cutting", x.cutting(Integer.MIN_VALUE), 2);
        is("pages()", x.pages(), 1);
        is("bracket(0, 0, true)", x.bracket(0, 0, true), 20);
    }
}
