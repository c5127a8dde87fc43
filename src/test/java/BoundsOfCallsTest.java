/**
 * The boundary cases that 'Promise 1' to 'Promise 27' name, a method for each sentence or number in brackets. What the
 * sentences under 'Terms' name stands in BoundsOfTermsTest. A method's name begins with its promise.
 */
public final class BoundsOfCallsTest extends Checks {
    private static final int LEAST = Integer.MIN_VALUE;
    private static final int MOST = Integer.MAX_VALUE;

    public static void main(String[] args) throws IllegalAccessException {
        for (int promise = 1; promise <= 27; promise++) needPart(String.format("promise%02d", promise), BoundsOfCallsTest.class);
        runAll(BoundsOfCallsTest.class);
    }

    // ---- what several promises are tested on

    /** A PAGE of 20 with two LINES, and two NOTES in LAYERS of their own; without BREAKS the second LINE is 21. */
    private static void smallBook(boolean breaks) {
        x.page(20, 0);
        lines(10, breaks ? 10 : 21);
        x.note(0, 5, 1, 0, 0);
        x.note(1, 5, 1, 0, 1);
    }

    // ---- promise 1

    private static void promise01StatusIsZero() {
        due("status() ahead of every call", x.status(), 0);
    }

    private static void promise01HeightIs100() {
        lines(50, 50);
        pagesOf(0, 0);
        lines(1);
        pagesOf(0, 0, 1);
    }

    private static void promise01GapIs2() {
        lines(10);
        plain(0, 5, 0);
        plain(0, 5, 0);
        is("place(1)", x.place(1), 7);
    }

    private static void promise01NoLines() {
        is("pages()", x.pages(), 0);
        not("change(0, 1)", x.change(0, 1), 1);
        not("note(0, ..)", x.note(0, 1, 1, 0, 0), 1);
        not("pageOf(0)", x.pageOf(0), 1);
        not("top(0)", x.top(0), 1);
        is("the first LINE", x.line(1), 0);
    }

    private static void promise01NoNotes() {
        lines(1);
        not("answer(0, 1)", x.answer(0, 1), 1);
        not("cut(0, 1)", x.cut(0, 1), 1);
        not("bind(0, 0)", x.bind(0, 0), 1);
        not("fix(0, 0)", x.fix(0, 0), 1);
        not("loose(0)", x.loose(0), 1);
        not("move(0, 0)", x.move(0, 0), 1);
        not("told(0, 0)", x.told(0, 0), 1);
        not("side(0)", x.side(0), 1);
        not("place(0)", x.place(0), 1);
        not("rest(0)", x.rest(0), 1);
        not("column(0, 0)", x.column(0, 0), 1);
        not("bracket(0, 0, true)", x.bracket(0, 0, true), 1);
        is("the first NOTE", plain(0, 1, 0), 0);
    }

    private static void promise01AllLayersAreShown() {
        lines(10);
        for (int layer = 0; layer < 4; layer++) {
            x.note(0, 5, 1, 0, layer);
            is("told(" + layer + ", 7)", x.told(layer, 7), 1);
            is("place(" + layer + ")", x.place(layer), 7 * layer);
        }
    }

    private static void promise01KeepIsOff() {
        lines(10);
        x.note(0, 5, 1, 0, 0);
        x.note(0, 5, 1, 0, 1);
        x.show(2);
        is("place(1), the one ahead of it hidden", x.place(1), 0);
    }

    private static void promise01CuttingIs50() {
        x.page(20, 0);
        lines(10, 10);
        x.note(1, 15, 10, 0, 0);
        x.cut(0, 10);
        is("10 times 5 is not above CUTTING", x.rest(0), 0);
        is("cost(0)", x.cost(0), 50);
        x.note(1, 16, 10, 1, 0);
        x.cut(1, 10);
        is("10 times 6 is", x.rest(1), 6);
        is("cost(0)", x.cost(0), 100);
    }

    private static void promise01ObjectsAreApart() {
        EdgeNotes other = new EdgeNotes();
        lines(10);
        plain(0, 5, 0);
        x.page(10, 0);
        not("line(0)", x.line(0), 2);
        due("status() of the other", other.status(), 0);
        due("pages() of the other", other.pages(), 0);
        due("line(50) of the other", other.line(50), 0);
        due("told(0, 0) of the other", other.told(0, 0), -1);
        is("told(0, 0)", x.told(0, 0), 0);
    }

    // ---- promise 2

    private static void promise02StatusHasNone() {
        not("line(0)", x.line(0), 2);
        due("status() again", x.status(), 2);
        due("status() once more", x.status(), 2);
    }

    private static void promise02TheLatestCall() {
        not("line(0)", x.line(0), 2);
        not("change(0, 0)", x.change(0, 0), 1);
        is("line(1)", x.line(1), 0);
        x.line(51);
        x.cost(1);
        due("status() of the later of two refused calls", x.status(), 1);
    }

    private static void promise02EveryCallThatIsDoneHasZero() {
        x.line(0);
        done("page", x.page(100, 2));
        x.line(0);
        is("line", x.line(10), 0);
        x.line(0);
        done("change", x.change(0, 10));
        x.line(0);
        is("note", x.note(0, 10, 1, 0, 0), 0);
        x.note(0, 10, 1, 1, 0);
        x.line(0);
        is("answer", x.answer(0, 1), 1);
        x.line(0);
        is("cut", x.cut(1, 1), 1);
        x.line(0);
        done("cutting", x.cutting(50));
        x.line(0);
        done("bind", x.bind(0, 0));
        x.line(0);
        done("bind to NONE", x.bind(1, -1));
        x.line(0);
        done("fix", x.fix(0, 0));
        x.line(0);
        done("loose", x.loose(0));
        x.line(10);
        x.line(0);
        done("move", x.move(1, 1));
        x.line(0);
        done("show", x.show(15));
        x.line(0);
        done("keep", x.keep(false));
        x.line(0);
        is("told", x.told(0, 0), 0);
    }

    private static void promise02EveryQuestionThatIsAnsweredHasZero() {
        lines(10, 10);
        plain(0, 5, 1);
        x.bind(0, 1);
        x.line(0);
        is("told, NONE as an answer", x.told(0, 6), -1);
        x.line(0);
        is("pages", x.pages(), 1);
        x.line(0);
        is("pageOf", x.pageOf(1), 0);
        x.line(0);
        is("top", x.top(1), 10);
        x.line(0);
        is("side", x.side(0), 1);
        x.line(0);
        is("place", x.place(0), 0);
        x.line(0);
        is("rest", x.rest(0), 0);
        x.line(0);
        is("column", x.column(0, 0), 0);
        x.line(0);
        is("bracket", x.bracket(0, 0, true), 20);
        x.line(0);
        is("cost", x.cost(0), 0);
        x.line(0);
        is("runs", x.runs(0, 1), 1);
        x.line(0);
        is("moved", x.moved(0), 0);
    }

    // ---- promise 3

    private static void promise03HeightFrom10() {
        for (int bad : new int[] {9, 0, -1, -10, LEAST}) not("page(" + bad + ", 2)", x.page(bad, 2), 2);
        done("page(10, 2)", x.page(10, 2));
        lines(10, 1);
        pagesOf(0, 1);
    }

    private static void promise03HeightTo400() {
        for (int bad : new int[] {401, 1000, MOST}) not("page(" + bad + ", 2)", x.page(bad, 2), 2);
        done("page(400, 2)", x.page(400, 2));
        lines(50, 50, 50, 50, 50, 50, 50, 50, 1);
        pagesOf(0, 0, 0, 0, 0, 0, 0, 0, 1);
    }

    private static void promise03GapFrom0() {
        for (int bad : new int[] {-1, -20, LEAST}) not("page(100, " + bad + ")", x.page(100, bad), 2);
        done("page(100, 0)", x.page(100, 0));
        lines(10);
        plain(0, 5, 0);
        plain(0, 5, 0);
        is("place(1)", x.place(1), 5);
    }

    private static void promise03GapTo20() {
        for (int bad : new int[] {21, 100, MOST}) not("page(100, " + bad + ")", x.page(100, bad), 2);
        done("page(100, 20)", x.page(100, 20));
        lines(10);
        plain(0, 5, 0);
        plain(0, 5, 0);
        is("place(1)", x.place(1), 25);
    }

    private static void promise03OneBadNumberChangesNeither() {
        lines(50, 50);
        plain(0, 5, 0);
        plain(0, 5, 0);
        not("page(401, 9)", x.page(401, 9), 2);
        is("GAP is still 2", x.place(1), 7);
        not("page(50, 21)", x.page(50, 21), 2);
        is("HEIGHT is still 100", x.pages(), 1);
    }

    private static void promise03TheSameOnceMore() {
        done("page(100, 2)", x.page(100, 2));
        done("page(100, 2)", x.page(100, 2));
    }

    // ---- promise 4

    private static void promise04HeightFrom1() {
        for (int bad : new int[] {0, -1, -50, LEAST}) not("line(" + bad + ")", x.line(bad), 2);
        is("line(1)", x.line(1), 0);
        is("line(1)", x.line(1), 1);
        is("top(1)", x.top(1), 1);
    }

    private static void promise04HeightTo50() {
        for (int bad : new int[] {51, 100, MOST}) not("line(" + bad + ")", x.line(bad), 2);
        is("line(50)", x.line(50), 0);
        is("line(50)", x.line(50), 1);
        is("top(1)", x.top(1), 50);
    }

    private static void promise04AtMost60() {
        for (int i = 0; i < 60; i++) is("line(1)", x.line(1), i);
        not("the 61st LINE", x.line(1), 3);
        not("once more", x.line(50), 3);
        not("2 is ahead of 3", x.line(0), 2);
        not("2 is ahead of 3", x.line(51), 2);
        is("the last LINE", x.top(59), 59);
        not("there is no LINE 60", x.top(60), 1);
    }

    private static void promise04ARefusedLineHasNoNumber() {
        is("line(5)", x.line(5), 0);
        not("line(51)", x.line(51), 2);
        is("line(5)", x.line(5), 1);
        not("there is no LINE 2", x.top(2), 1);
    }

    // ---- promise 5

    private static void promise05NoSuchLine() {
        lines(10, 10);
        for (int bad : new int[] {-1, 2, 60, LEAST, MOST}) not("change(" + bad + ", 5)", x.change(bad, 5), 1);
        done("the first", x.change(0, 5));
        done("the last", x.change(1, 6));
        x.line(1);
        is("top(2)", x.top(2), 11);
    }

    private static void promise05HeightFrom1To50() {
        lines(10, 10);
        for (int bad : new int[] {0, -1, 51, LEAST, MOST}) not("change(0, " + bad + ")", x.change(0, bad), 2);
        is("top(1)", x.top(1), 10);
        done("change(0, 1)", x.change(0, 1));
        is("top(1)", x.top(1), 1);
        done("change(0, 50)", x.change(0, 50));
        is("top(1)", x.top(1), 50);
    }

    private static void promise05OneIsAheadOfTwo() {
        lines(10);
        not("change(1, 0)", x.change(1, 0), 1);
        not("change(-1, 51)", x.change(-1, 51), 1);
    }

    private static void promise05TheSameOnceMore() {
        lines(10);
        done("change(0, 10)", x.change(0, 10));
    }

    private static void promise05AFullBook() {
        for (int i = 0; i < 60; i++) x.line(1);
        done("change(59, 50)", x.change(59, 50));
        is("pageOf(59)", x.pageOf(59), 1);
        not("change(60, 1)", x.change(60, 1), 1);
    }

    // ---- promise 6

    private static void promise06NoSuchLine() {
        not("no LINE at all", x.note(0, 1, 1, 0, 0), 1);
        lines(10, 10);
        for (int bad : new int[] {-1, 2, 60, LEAST, MOST}) not("note(" + bad + ", ..)", x.note(bad, 1, 1, 0, 0), 1);
        is("of the last LINE", x.note(1, 1, 1, 0, 0), 0);
        is("told(0, 0)", x.told(0, 0), 1);
    }

    private static void promise06HeightFrom1To100() {
        lines(10);
        for (int bad : new int[] {0, -1, 101, LEAST, MOST}) not("HEIGHT " + bad, x.note(0, bad, 1, 0, 0), 2);
        is("HEIGHT 1", x.note(0, 1, 1, 0, 0), 0);
        is("HEIGHT 100", x.note(0, 100, 1, 0, 0), 1);
        is("told(0, 1)", x.told(0, 1), 1);
        is("told(1, 1)", x.told(1, 1), 100);
    }

    private static void promise06WeightFrom1To20() {
        lines(10);
        for (int bad : new int[] {0, -1, 21, LEAST, MOST}) not("WEIGHT " + bad, x.note(0, 1, bad, 0, 0), 2);
        is("WEIGHT 1", x.note(0, 1, 1, 0, 0), 0);
        is("WEIGHT 20", x.note(0, 1, 20, 0, 0), 1);
        is("told(0, 2)", x.told(0, 2), 1);
        is("told(1, 2)", x.told(1, 2), 20);
    }

    private static void promise06SideFrom0To2() {
        lines(10);
        for (int bad : new int[] {-1, 3, LEAST, MOST}) not("SIDE " + bad, x.note(0, 1, 1, bad, 0), 2);
        for (int side = 0; side < 3; side++) {
            is("SIDE " + side, x.note(0, 1, 1, side, 0), side);
            is("told(" + side + ", 3)", x.told(side, 3), side);
        }
    }

    private static void promise06LayerFrom0To3() {
        lines(10);
        for (int bad : new int[] {-1, 4, LEAST, MOST}) not("LAYER " + bad, x.note(0, 1, 1, 0, bad), 2);
        for (int layer = 0; layer < 4; layer++) {
            is("LAYER " + layer, x.note(0, 1, 1, 0, layer), layer);
            is("told(" + layer + ", 4)", x.told(layer, 4), layer);
        }
    }

    private static void promise06AtMost24() {
        lines(10);
        for (int i = 0; i < 24; i++) is("note", x.note(0, 1, 1, 0, i % 4), i);
        not("the 25th NOTE", x.note(0, 1, 1, 0, 0), 3);
        x.show(0);
        not("hidden ones count", x.note(0, 1, 1, 0, 0), 3);
        not("2 is ahead of 3", x.note(0, 101, 1, 0, 0), 2);
        not("1 is ahead of 3", x.note(1, 1, 1, 0, 0), 1);
        is("the last NOTE", x.told(23, 4), 3);
        not("there is no NOTE 24", x.told(24, 0), 1);
    }

    private static void promise06OneIsAheadOfTwo() {
        lines(10);
        not("note(1, 0, 0, 3, 4)", x.note(1, 0, 0, 3, 4), 1);
        not("note(-1, 1, 1, 0, 4)", x.note(-1, 1, 1, 0, 4), 1);
    }

    private static void promise06ARefusedNoteHasNoNumber() {
        lines(10);
        is("note", plain(0, 5, 0), 0);
        not("WEIGHT 0", x.note(0, 5, 0, 0, 0), 2);
        is("note", plain(0, 5, 0), 1);
        not("there is no NOTE 2", x.told(2, 0), 1);
    }

    // ---- promise 7

    private static void promise07NoSuchNote() {
        lines(10);
        plain(0, 5, 0);
        for (int bad : new int[] {-1, 1, 24, LEAST, MOST}) not("answer(" + bad + ", 1)", x.answer(bad, 1), 1);
        not("1 is ahead of 2", x.answer(1, 0), 1);
        is("answer(0, 1)", x.answer(0, 1), 1);
    }

    private static void promise07HeightFrom1To100() {
        lines(10);
        plain(0, 5, 0);
        for (int bad : new int[] {0, -1, 101, LEAST, MOST}) not("answer(0, " + bad + ")", x.answer(0, bad), 2);
        is("told(0, 5)", x.told(0, 5), 5);
        is("answer(0, 1)", x.answer(0, 1), 1);
        is("told(0, 5)", x.told(0, 5), 6);
        is("answer(0, 100)", x.answer(0, 100), 2);
        is("told(0, 5)", x.told(0, 5), 106);
    }

    private static void promise07AtMost4ToEach() {
        lines(10);
        plain(0, 100, 0);
        plain(0, 5, 0);
        for (int i = 1; i <= 4; i++) is("answer(0, 100)", x.answer(0, 100), i);
        not("the fifth", x.answer(0, 1), 3);
        not("2 is ahead of 3", x.answer(0, 101), 2);
        is("the greatest TALL", x.told(0, 5), 500);
        for (int i = 1; i <= 4; i++) is("another NOTE has 4 too", x.answer(1, 1), i);
        not("the fifth", x.answer(1, 1), 3);
    }

    private static void promise07ALongNoteHasNoAnswers() {
        lines(10);
        plain(0, 5, 0);
        x.cut(0, 4);
        not("answer(0, 1)", x.answer(0, 1), 7);
        not("2 is ahead of 7", x.answer(0, 0), 2);
        is("told(0, 5)", x.told(0, 5), 5);
    }

    private static void promise07AHiddenNoteHasThemToo() {
        lines(10);
        plain(0, 5, 0);
        x.show(0);
        is("answer(0, 1)", x.answer(0, 1), 1);
    }

    // ---- promise 8

    private static void promise08NoSuchNote() {
        lines(10);
        plain(0, 5, 0);
        for (int bad : new int[] {-1, 1, 24, LEAST, MOST}) not("cut(" + bad + ", 1)", x.cut(bad, 1), 1);
        not("1 is ahead of 2", x.cut(1, 0), 1);
        is("cut(0, 1)", x.cut(0, 1), 1);
    }

    private static void promise08From1To99() {
        lines(10);
        plain(0, 100, 0);
        for (int bad : new int[] {0, -1, 100, 101, LEAST, MOST}) not("cut(0, " + bad + ")", x.cut(0, bad), 2);
        is("cut(0, 1)", x.cut(0, 1), 1);
        is("cut(0, 99)", x.cut(0, 99), 2);
    }

    private static void promise08NotBelowItsHeight() {
        lines(10);
        plain(0, 5, 0);
        plain(0, 2, 0);
        plain(0, 1, 0);
        not("cut(0, 5)", x.cut(0, 5), 2);
        not("cut(0, 6)", x.cut(0, 6), 2);
        is("cut(0, 4)", x.cut(0, 4), 1);
        not("cut(1, 2)", x.cut(1, 2), 2);
        is("cut(1, 1)", x.cut(1, 1), 1);
        not("cut(2, 1): HEIGHT 1 has no CUT", x.cut(2, 1), 2);
        not("cut(2, 0)", x.cut(2, 0), 2);
    }

    private static void promise08AtMost3() {
        lines(10);
        plain(0, 10, 0);
        plain(0, 10, 0);
        is("cut(0, 5)", x.cut(0, 5), 1);
        is("cut(0, 9)", x.cut(0, 9), 2);
        is("cut(0, 1)", x.cut(0, 1), 3);
        not("the fourth", x.cut(0, 2), 3);
        not("3 is ahead of 4", x.cut(0, 5), 3);
        not("2 is ahead of 3", x.cut(0, 10), 2);
        is("told(0, 8)", x.told(0, 8), 3);
        for (int i = 1; i <= 3; i++) is("another NOTE has 3 too", x.cut(1, i), i);
    }

    private static void promise08ItHasThat() {
        lines(10);
        plain(0, 10, 0);
        plain(0, 10, 0);
        x.cut(0, 5);
        not("cut(0, 5)", x.cut(0, 5), 4);
        is("told(0, 8)", x.told(0, 8), 1);
        is("another NOTE's CUT", x.cut(1, 5), 1);
        is("cut(0, 4)", x.cut(0, 4), 2);
        not("the first one", x.cut(0, 5), 4);
        not("the second one", x.cut(0, 4), 4);
    }

    private static void promise08OneWithAnswersHasNoCuts() {
        lines(10);
        plain(0, 10, 0);
        x.answer(0, 50);
        not("cut(0, 5)", x.cut(0, 5), 7);
        not("2 is ahead of 7", x.cut(0, 10), 2);
        not("HEIGHT counts, not TALL", x.cut(0, 30), 2);
        is("told(0, 8)", x.told(0, 8), 0);
        is("it is not LONG", x.answer(0, 1), 2);
    }

    // ---- promise 9

    private static void promise09From0To1000() {
        for (int bad : new int[] {-1, 1001, LEAST, MOST}) not("cutting(" + bad + ")", x.cutting(bad), 2);
        x.page(20, 0);
        lines(20);
        plain(0, 30, 0);
        x.cut(0, 20);
        is("50 still", x.cost(0), 50);
        done("cutting(0)", x.cutting(0));
        is("cost(0)", x.cost(0), 0);
        done("cutting(1000)", x.cutting(1000));
        is("cost(0)", x.cost(0), 1000);
        done("cutting(1000) again", x.cutting(1000));
        not("cutting(1001)", x.cutting(1001), 2);
        is("1,000 still", x.cost(0), 1000);
    }

    // ---- promise 10

    private static void promise10NoSuchNote() {
        lines(10, 10);
        plain(0, 5, 0);
        for (int bad : new int[] {-1, 1, 24, LEAST, MOST}) {
            not("bind(" + bad + ", 1)", x.bind(bad, 1), 1);
            not("bind(" + bad + ", NONE)", x.bind(bad, -1), 1);
        }
    }

    private static void promise10NoSuchLine() {
        lines(10, 10);
        plain(0, 5, 0);
        for (int bad : new int[] {-2, 2, 60, LEAST, MOST}) not("bind(0, " + bad + ")", x.bind(0, bad), 1);
        is("told(0, 9)", x.told(0, 9), -1);
        done("the last LINE", x.bind(0, 1));
        is("told(0, 9)", x.told(0, 9), 1);
    }

    private static void promise10ALineAheadOfItsOwn() {
        lines(10, 10, 10);
        plain(1, 5, 0);
        x.bind(0, 2);
        not("bind(0, 0)", x.bind(0, 0), 2);
        is("told(0, 9)", x.told(0, 9), 2);
        done("its own LINE is not ahead", x.bind(0, 1));
        is("told(0, 9)", x.told(0, 9), 1);
    }

    private static void promise10NoneIsNoMore() {
        lines(10, 10);
        plain(0, 5, 0);
        done("it was not BOUND", x.bind(0, -1));
        is("told(0, 9)", x.told(0, 9), -1);
        x.bind(0, 1);
        is("column(0, 0)", x.column(0, 0), 0);
        done("bind(0, NONE)", x.bind(0, -1));
        is("told(0, 9)", x.told(0, 9), -1);
        not("column(0, 0)", x.column(0, 0), 8);
    }

    private static void promise10MovedBehindTheEnd() {
        lines(10, 10, 10, 10);
        plain(0, 5, 0);
        x.bind(0, 2);
        x.move(0, 1);
        is("within the span", x.told(0, 9), 2);
        is("bracket(0, 0, false)", x.bracket(0, 0, false), 10);
        x.move(0, 2);
        is("at its end", x.told(0, 9), 2);
        is("bracket(0, 0, false)", x.bracket(0, 0, false), 20);
        x.move(0, 3);
        is("behind its end", x.told(0, 9), -1);
        x.move(0, 0);
        is("it is not BOUND again", x.told(0, 9), -1);
    }

    private static void promise10MovedAheadOfTheSpan() {
        lines(10, 10, 10);
        plain(2, 5, 0);
        x.bind(0, 2);
        x.move(0, 0);
        is("told(0, 9)", x.told(0, 9), 2);
        is("bracket(0, 0, false)", x.bracket(0, 0, false), 0);
    }

    private static void promise10ARefusedMoveLeavesIt() {
        lines(10, 10);
        plain(0, 5, 0);
        x.bind(0, 0);
        not("move(0, 2)", x.move(0, 2), 1);
        is("told(0, 9)", x.told(0, 9), 0);
        not("move(0, 0)", x.move(0, 0), 4);
        is("told(0, 9)", x.told(0, 9), 0);
    }

    private static void promise10BoundAnew() {
        lines(10, 10, 10);
        plain(0, 5, 0);
        done("bind(0, 1)", x.bind(0, 1));
        done("bind(0, 1) again", x.bind(0, 1));
        is("bracket(0, 0, true)", x.bracket(0, 0, true), 20);
        done("bind(0, 2)", x.bind(0, 2));
        is("bracket(0, 0, true)", x.bracket(0, 0, true), 30);
    }

    // ---- promise 11

    private static void promise11NoSuchNote() {
        lines(10);
        plain(0, 5, 0);
        for (int bad : new int[] {-1, 1, 24, LEAST, MOST}) not("fix(" + bad + ", 0)", x.fix(bad, 0), 1);
        not("1 is ahead of 2", x.fix(1, 401), 1);
    }

    private static void promise11From0To400() {
        lines(10, 10);
        plain(1, 5, 0);
        for (int bad : new int[] {-1, 401, LEAST, MOST}) not("fix(0, " + bad + ")", x.fix(0, bad), 2);
        is("told(0, 6)", x.told(0, 6), -1);
        is("place(0)", x.place(0), 10);
        done("fix(0, 0)", x.fix(0, 0));
        is("told(0, 6)", x.told(0, 6), 0);
        is("place(0)", x.place(0), 0);
        done("fix(0, 400)", x.fix(0, 400));
        is("told(0, 6)", x.told(0, 6), 400);
        not("no PAGE reaches so far", x.place(0), 6);
        not("fix(0, 401)", x.fix(0, 401), 2);
        is("told(0, 6)", x.told(0, 6), 400);
    }

    private static void promise11FixedAnew() {
        lines(10);
        plain(0, 5, 0);
        done("fix(0, 30)", x.fix(0, 30));
        done("fix(0, 30) again", x.fix(0, 30));
        done("fix(0, 31)", x.fix(0, 31));
        is("place(0)", x.place(0), 31);
    }

    // ---- promise 12

    private static void promise12NoSuchNote() {
        lines(10);
        plain(0, 5, 0);
        for (int bad : new int[] {-1, 1, 24, LEAST, MOST}) not("loose(" + bad + ")", x.loose(bad), 1);
    }

    private static void promise12ItIsNotFixed() {
        lines(10);
        plain(0, 5, 0);
        not("it never was", x.loose(0), 4);
        x.fix(0, 0);
        done("FIXED at 0 is FIXED", x.loose(0));
        is("told(0, 6)", x.told(0, 6), -1);
        not("it is no more", x.loose(0), 4);
        x.fix(0, 400);
        done("FIXED at 400", x.loose(0));
        x.fix(0, 401);
        not("a refused fix", x.loose(0), 4);
    }

    // ---- promise 13

    private static void promise13NoSuchNoteOrLine() {
        lines(10, 10);
        plain(0, 5, 0);
        for (int bad : new int[] {-1, 1, 24, LEAST, MOST}) not("move(" + bad + ", 1)", x.move(bad, 1), 1);
        for (int bad : new int[] {-1, 2, 60, LEAST, MOST}) not("move(0, " + bad + ")", x.move(0, bad), 1);
        is("told(0, 0)", x.told(0, 0), 0);
        done("to the last LINE", x.move(0, 1));
        is("told(0, 0)", x.told(0, 0), 1);
        done("to the first LINE", x.move(0, 0));
        is("told(0, 0)", x.told(0, 0), 0);
    }

    private static void promise13ItIsOfThatLine() {
        lines(10, 10);
        plain(1, 5, 0);
        not("move(0, 1)", x.move(0, 1), 4);
        x.move(0, 0);
        not("move(0, 0)", x.move(0, 0), 4);
    }

    private static void promise13AFixedNoteStaysWhereItIsTold() {
        x.page(20, 0);
        lines(20, 20);
        plain(0, 5, 0);
        x.fix(0, 15);
        x.move(0, 1);
        is("told(0, 6)", x.told(0, 6), 15);
        is("place(0)", x.place(0), 15);
        is("moved(0)", x.moved(0), 0);
        is("moved(1)", x.moved(1), 1);
    }

    // ---- promise 14

    private static void promise14From0To15() {
        lines(10);
        for (int layer = 0; layer < 4; layer++) x.note(0, 5, 1, 0, layer);
        for (int bad : new int[] {-1, 16, 31, LEAST, MOST}) not("show(" + bad + ")", x.show(bad), 2);
        is("all are shown still", x.runs(0, 0), 1);
        is("place(3)", x.place(3), 21);
        done("show(0)", x.show(0));
        is("runs(0, 0)", x.runs(0, 0), 0);
        not("show(16)", x.show(16), 2);
        is("none is shown still", x.runs(0, 0), 0);
        done("show(15)", x.show(15));
        is("place(3)", x.place(3), 21);
    }

    private static void promise14ANumberForEachLayer() {
        lines(10);
        for (int layer = 0; layer < 4; layer++) x.note(0, 5, 1, 0, layer);
        for (int layers = 0; layers < 16; layers++) {
            done("show(" + layers + ")", x.show(layers));
            for (int note = 0; note < 4; note++) is("told(" + note + ", 7) by " + layers, x.told(note, 7), layers >> note & 1);
        }
    }

    private static void promise14TheSameOnceMore() {
        done("show(15)", x.show(15));
        done("show(15)", x.show(15));
    }

    // ---- promise 15

    private static void promise15WhatIsNotShownKeepsItsPlace() {
        lines(10);
        x.note(0, 5, 1, 0, 0);
        x.note(0, 5, 1, 0, 1);
        x.show(2);
        done("keep(true)", x.keep(true));
        is("place(1)", x.place(1), 7);
        done("keep(true) again", x.keep(true));
        is("place(1)", x.place(1), 7);
        done("keep(false)", x.keep(false));
        is("place(1)", x.place(1), 0);
        done("keep(false) again", x.keep(false));
    }

    private static void promise15AHiddenNoteIsNotShown() {
        lines(10);
        x.note(0, 5, 1, 0, 0);
        x.bind(0, 0);
        x.show(14);
        x.keep(true);
        is("told(0, 7)", x.told(0, 7), 0);
        not("side(0)", x.side(0), 5);
        not("place(0)", x.place(0), 5);
        not("rest(0)", x.rest(0), 5);
        not("column(0, 0)", x.column(0, 0), 5);
        not("bracket(0, 0, true)", x.bracket(0, 0, true), 5);
    }

    private static void promise15NoNotes() {
        done("keep(true)", x.keep(true));
        is("pages()", x.pages(), 0);
        lines(10);
        is("runs(0, 0)", x.runs(0, 0), 0);
    }

    // ---- promise 16

    private static void promise16NoSuchNote() {
        lines(10);
        plain(0, 5, 0);
        for (int bad : new int[] {-1, 1, 24, LEAST, MOST}) not("told(" + bad + ", 0)", x.told(bad, 0), 1);
        not("1 is ahead of 2", x.told(1, 10), 1);
    }

    private static void promise16From0To9() {
        lines(10);
        plain(0, 5, 0);
        for (int bad : new int[] {-1, 10, LEAST, MOST}) not("told(0, " + bad + ")", x.told(0, bad), 2);
        is("told(0, 0)", x.told(0, 0), 0);
        is("told(0, 9)", x.told(0, 9), -1);
    }

    private static void promise16NoneWhereThereIsNone() {
        lines(10, 10);
        plain(0, 5, 0);
        is("not FIXED", x.told(0, 6), -1);
        is("no CUTS", x.told(0, 8), 0);
        is("not BOUND", x.told(0, 9), -1);
        x.fix(0, 0);
        x.bind(0, 0);
        is("FIXED at 0", x.told(0, 6), 0);
        is("BOUND to LINE 0", x.told(0, 9), 0);
    }

    private static void promise16WithoutBreaks() {
        smallBook(false);
        int[] due = {0, 5, 1, 0, 0, 5, -1, 1, 0, -1};
        for (int what = 0; what < 10; what++) is("told(0, " + what + ")", x.told(0, what), due[what]);
    }

    private static void promise16OfAHiddenNote() {
        lines(10);
        x.note(0, 5, 2, 1, 3);
        x.show(7);
        int[] due = {0, 5, 2, 1, 3, 5, -1, 0, 0, -1};
        for (int what = 0; what < 10; what++) is("told(0, " + what + ")", x.told(0, what), due[what]);
    }

    private static void promise16HeightAndTallOfANoteThatIsCut() {
        x.page(20, 0);
        lines(20);
        plain(0, 30, 0);
        x.cut(0, 20);
        is("rest(0)", x.rest(0), 10);
        is("told(0, 1)", x.told(0, 1), 30);
        is("told(0, 5)", x.told(0, 5), 30);
    }

    // ---- promise 17

    private static void promise17WithoutLinesZero() {
        is("pages()", x.pages(), 0);
        x.page(10, 20);
        is("pages()", x.pages(), 0);
    }

    private static void promise17NoBreaks() {
        smallBook(false);
        not("pages()", x.pages(), 6);
        x.change(1, 20);
        is("they are back", x.pages(), 2);
    }

    private static void promise17APageForEachLine() {
        x.page(50, 0);
        for (int i = 0; i < 60; i++) x.line(50);
        is("pages()", x.pages(), 60);
        is("pageOf(59)", x.pageOf(59), 59);
    }

    private static void promise17AsManyPagesAsCanBe() {
        x.page(50, 2);
        for (int i = 0; i < 60; i++) x.line(50);
        for (int i = 0; i < 24; i++) {
            plain(36 + i, 100, 0);
            x.cut(i, 50);
        }
        is("a PAGE without LINES behind each that has a CUT", x.pages(), 84);
        is("pageOf(59)", x.pageOf(59), 82);
        is("rest(23)", x.rest(23), 50);
        is("runs(83, 0)", x.runs(83, 0), 1);
        is("cost(83)", x.cost(83), 0);
        not("cost(84)", x.cost(84), 1);
    }

    // ---- promises 18 and 19

    private static void promise18NoSuchLine() {
        not("no LINE at all", x.pageOf(0), 1);
        lines(10);
        for (int bad : new int[] {-1, 1, 60, LEAST, MOST}) not("pageOf(" + bad + ")", x.pageOf(bad), 1);
        is("pageOf(0)", x.pageOf(0), 0);
    }

    private static void promise18NoBreaks() {
        smallBook(false);
        not("pageOf(0)", x.pageOf(0), 6);
        not("1 is ahead of 6", x.pageOf(2), 1);
        not("1 is ahead of 6", x.pageOf(-1), 1);
    }

    private static void promise19NoSuchLine() {
        not("no LINE at all", x.top(0), 1);
        lines(10);
        for (int bad : new int[] {-1, 1, 60, LEAST, MOST}) not("top(" + bad + ")", x.top(bad), 1);
        is("top(0)", x.top(0), 0);
    }

    private static void promise19NoBreaks() {
        smallBook(false);
        not("top(0)", x.top(0), 6);
        not("1 is ahead of 6", x.top(2), 1);
        not("1 is ahead of 6", x.top(-1), 1);
    }

    // ---- promises 20, 21 and 22

    private static void promise20NoSuchNote() {
        smallBook(true);
        for (int bad : new int[] {-1, 2, 24, LEAST, MOST}) not("side(" + bad + ")", x.side(bad), 1);
        is("side(1)", x.side(1), 0);
    }

    private static void promise20NotShownThenNoBreaks() {
        smallBook(false);
        not("side(1)", x.side(1), 6);
        x.show(1);
        not("5 is ahead of 6", x.side(1), 5);
        not("the other one", x.side(0), 6);
        not("1 is ahead of 5 and 6", x.side(2), 1);
        x.change(1, 10);
        not("5 with BREAKS", x.side(1), 5);
    }

    private static void promise21NoSuchNote() {
        smallBook(true);
        for (int bad : new int[] {-1, 2, 24, LEAST, MOST}) not("place(" + bad + ")", x.place(bad), 1);
        is("place(1)", x.place(1), 10);
    }

    private static void promise21NotShownThenNoBreaks() {
        smallBook(false);
        not("place(1)", x.place(1), 6);
        x.show(1);
        not("5 is ahead of 6", x.place(1), 5);
        not("the other one", x.place(0), 6);
        not("1 is ahead of 5 and 6", x.place(2), 1);
        x.change(1, 10);
        not("5 with BREAKS", x.place(1), 5);
    }

    private static void promise22NoSuchNote() {
        smallBook(true);
        for (int bad : new int[] {-1, 2, 24, LEAST, MOST}) not("rest(" + bad + ")", x.rest(bad), 1);
        is("rest(1)", x.rest(1), 0);
    }

    private static void promise22NotShownThenNoBreaks() {
        smallBook(false);
        not("rest(1)", x.rest(1), 6);
        x.show(1);
        not("5 is ahead of 6", x.rest(1), 5);
        not("the other one", x.rest(0), 6);
        not("1 is ahead of 5 and 6", x.rest(2), 1);
        x.change(1, 10);
        not("5 with BREAKS", x.rest(1), 5);
    }

    private static void promise22ItIsNotCut() {
        lines(10);
        plain(0, 5, 0);
        is("not LONG", x.rest(0), 0);
        x.cut(0, 3);
        is("LONG, but whole", x.rest(0), 0);
    }

    private static void promise22ItIsCutNoMore() {
        x.page(20, 0);
        lines(20);
        plain(0, 21, 0);
        x.cut(0, 20);
        is("rest(0)", x.rest(0), 1);
        x.page(21, 0);
        is("rest(0)", x.rest(0), 0);
        is("pages()", x.pages(), 1);
    }

    // ---- promises 23 and 24

    private static void promise23NoSuchNote() {
        smallBook(true);
        for (int bad : new int[] {-1, 2, 24, LEAST, MOST}) not("column(" + bad + ", 0)", x.column(bad, 0), 1);
    }

    private static void promise23NoSuchPage() {
        smallBook(true);
        x.bind(0, 1);
        for (int bad : new int[] {-1, 1, 84, LEAST, MOST}) not("column(0, " + bad + ")", x.column(0, bad), 1);
        is("column(0, 0)", x.column(0, 0), 0);
        not("1 is ahead of 8", x.column(1, 1), 1);
    }

    private static void promise23ItHasNoneThere() {
        smallBook(true);
        not("not BOUND", x.column(0, 0), 8);
        x.change(1, 20);
        x.bind(0, 0);
        x.bind(1, 1);
        is("column(0, 0)", x.column(0, 0), 0);
        not("a PAGE behind the span", x.column(0, 1), 8);
        not("a PAGE ahead of the span", x.column(1, 0), 8);
        is("column(1, 1)", x.column(1, 1), 0);
    }

    private static void promise23InThisOrder() {
        smallBook(false);
        not("6 is ahead of 1 of the PAGE", x.column(0, 9), 6);
        not("6 is ahead of 8", x.column(0, 0), 6);
        x.show(1);
        not("5 is ahead of 6", x.column(1, 9), 5);
        not("1 of the NOTE is ahead of 5 and 6", x.column(2, 9), 1);
        x.change(1, 10);
        not("5 is ahead of 1 of the PAGE", x.column(1, 9), 5);
        not("5 is ahead of 8", x.column(1, 0), 5);
    }

    private static void promise24NoSuchNote() {
        smallBook(true);
        for (int bad : new int[] {-1, 2, 24, LEAST, MOST}) {
            not("bracket(" + bad + ", 0, true)", x.bracket(bad, 0, true), 1);
            not("bracket(" + bad + ", 0, false)", x.bracket(bad, 0, false), 1);
        }
    }

    private static void promise24NoSuchPage() {
        smallBook(true);
        x.bind(0, 1);
        for (int bad : new int[] {-1, 1, 84, LEAST, MOST}) {
            not("bracket(0, " + bad + ", true)", x.bracket(0, bad, true), 1);
            not("bracket(0, " + bad + ", false)", x.bracket(0, bad, false), 1);
        }
        is("bracket(0, 0, false)", x.bracket(0, 0, false), 0);
        not("1 is ahead of 8", x.bracket(1, 1, true), 1);
    }

    private static void promise24ItHasNoneThere() {
        smallBook(true);
        not("not BOUND", x.bracket(0, 0, true), 8);
        not("not BOUND", x.bracket(0, 0, false), 8);
        x.change(1, 20);
        x.bind(0, 0);
        x.bind(1, 1);
        not("a PAGE behind the span", x.bracket(0, 1, false), 8);
        not("a PAGE ahead of the span", x.bracket(1, 0, true), 8);
        is("bracket(1, 1, false)", x.bracket(1, 1, false), 0);
        is("bracket(1, 1, true)", x.bracket(1, 1, true), 20);
    }

    private static void promise24InThisOrder() {
        smallBook(false);
        not("6 is ahead of 1 of the PAGE", x.bracket(0, 9, true), 6);
        not("6 is ahead of 8", x.bracket(0, 0, false), 6);
        x.show(1);
        not("5 is ahead of 6", x.bracket(1, 9, true), 5);
        not("1 of the NOTE is ahead of 5 and 6", x.bracket(2, 9, false), 1);
        x.change(1, 10);
        not("5 is ahead of 1 of the PAGE", x.bracket(1, 9, true), 5);
        not("5 is ahead of 8", x.bracket(1, 0, false), 5);
    }

    // ---- promises 25, 26 and 27

    private static void promise25NoSuchPage() {
        not("without LINES there is none", x.cost(0), 1);
        lines(10);
        for (int bad : new int[] {-1, 1, 84, LEAST, MOST}) not("cost(" + bad + ")", x.cost(bad), 1);
        is("a PAGE without NOTES", x.cost(0), 0);
    }

    private static void promise25OneIsAskedBehindSix() {
        smallBook(false);
        for (int page : new int[] {0, 1, -1, 84, LEAST, MOST}) not("cost(" + page + ")", x.cost(page), 6);
    }

    private static void promise26NoSuchSide() {
        lines(10);
        for (int bad : new int[] {-1, 2, 3, LEAST, MOST}) not("runs(0, " + bad + ")", x.runs(0, bad), 2);
        is("runs(0, 0)", x.runs(0, 0), 0);
        is("runs(0, 1)", x.runs(0, 1), 0);
    }

    private static void promise26NoSuchPage() {
        not("without LINES there is none", x.runs(0, 0), 1);
        not("2 is ahead of 1", x.runs(0, 2), 2);
        lines(10);
        for (int bad : new int[] {-1, 1, 84, LEAST, MOST}) not("runs(" + bad + ", 1)", x.runs(bad, 1), 1);
        not("2 is ahead of 1", x.runs(1, -1), 2);
    }

    private static void promise26InThisOrder() {
        smallBook(false);
        not("2 is ahead of 6", x.runs(0, 2), 2);
        not("2 is ahead of 6", x.runs(0, -1), 2);
        not("runs(0, 0)", x.runs(0, 0), 6);
        not("6 is ahead of 1", x.runs(-1, 0), 6);
        not("6 is ahead of 1", x.runs(9, 1), 6);
    }

    private static void promise26SetNotesThatAreNotShown() {
        x.page(100, 0);
        lines(5, 5, 10);
        x.note(0, 5, 1, 0, 0);
        x.note(1, 5, 1, 0, 1);
        x.note(2, 5, 1, 0, 0);
        x.note(2, 5, 1, 1, 1);
        is("one RUN of three NOTES", x.runs(0, 0), 1);
        x.show(1);
        is("a hidden one is not there", x.runs(0, 0), 2);
        is("the other side is bare", x.runs(0, 1), 0);
        x.keep(true);
        is("with KEEP it is SET", x.runs(0, 0), 1);
        is("and so is the one on the right", x.runs(0, 1), 1);
    }

    private static void promise27NoSuchPage() {
        not("without LINES there is none", x.moved(0), 1);
        lines(10);
        for (int bad : new int[] {-1, 1, 84, LEAST, MOST}) not("moved(" + bad + ")", x.moved(bad), 1);
        is("a PAGE without NOTES", x.moved(0), 0);
    }

    private static void promise27InThisOrder() {
        smallBook(false);
        for (int page : new int[] {0, 1, -1, 84, LEAST, MOST}) not("moved(" + page + ")", x.moved(page), 6);
    }

    private static void promise27FixedOnesToo() {
        lines(10, 10);
        plain(1, 5, 0);
        is("moved(0)", x.moved(0), 0);
        x.fix(0, 9);
        is("one above its LINE", x.moved(0), 1);
        x.fix(0, 11);
        is("one below its LINE", x.moved(0), 1);
        x.fix(0, 10);
        is("at the top of its LINE", x.moved(0), 0);
        is("cost(0)", x.cost(0), 0);
    }

    private static void promise27SetNotesThatAreNotShown() {
        lines(10);
        x.note(0, 5, 1, 0, 0);
        x.note(0, 5, 1, 0, 1);
        x.show(1);
        is("a hidden one is not there", x.moved(0), 0);
        x.keep(true);
        is("with KEEP it is SET", x.moved(0), 1);
    }

    private static void promise27WhatIsCarriedIsNotOfThePage() {
        x.page(20, 0);
        lines(20, 20);
        x.note(0, 5, 1, 0, 0);
        x.note(0, 30, 1, 0, 0);
        x.cut(1, 15);
        is("moved(0): the one that is CUT", x.moved(0), 1);
        is("rest(1)", x.rest(1), 15);
        is("moved(1)", x.moved(1), 0);
    }
}
