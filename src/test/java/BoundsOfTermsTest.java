/**
 * The boundary cases that the sentences under 'Terms' name, a method for each; in its comment the sentence and the
 * promises that rest on it. The numbers that a call refuses stand in BoundsOfCallsTest.
 */
public final class BoundsOfTermsTest extends Checks {
    public static void main(String[] args) throws IllegalAccessException {
        runAll(BoundsOfTermsTest.class);
    }

    /** Asks where the NOTES from 0 on stand, all on that side. */
    private static void places(int side, int... places) {
        for (int note = 0; note < places.length; note++) {
            is("side(" + note + ")", x.side(note), side);
            is("place(" + note + ")", x.place(note), places[note]);
        }
    }

    /** "An object is used for at most 512 calls": the last of them is answered as the first (all promises). */
    private static void objectIsUsedFor512Calls() {
        for (int i = 0; i < 60; i++) x.line(50);
        for (int i = 0; i < 24; i++) x.note(i, 10, 1, 2, 0);
        for (int i = 0; i < 24; i++) for (int cut = 1; cut < 4; cut++) x.cut(i, cut);
        int calls = 60 + 24 + 72;
        for (; calls < 511; calls++) due("change", x.change(calls % 60, 50 - calls % 2) ? 1 : 0, 1);
        due("pages() as call 512", x.pages(), 30);
    }

    // ==== 1.

    /** "lines stand one below the other, from the top of a PAGE on" (promise 19) */
    private static void linesStandFromTheTopOfAPage() {
        x.page(10, 0);
        lines(1, 9, 1, 8, 1, 1);
        pagesOf(0, 0, 1, 1, 1, 2);
        int[] tops = {0, 1, 0, 1, 9, 0};
        for (int line = 0; line < 6; line++) is("top(" + line + ")", x.top(line), tops[line]);
    }

    /** "ANSWERS ... hang below it, one below the other, without a GAP" (promises 7, 21) */
    private static void answersHangWithoutAGap() {
        x.page(400, 20);
        lines(50);
        plain(0, 5, 0);
        x.answer(0, 1);
        x.answer(0, 2);
        x.answer(0, 3);
        x.answer(0, 4);
        plain(0, 5, 0);
        places(0, 0, 35);
    }

    /** "the TALL of a NOTE is its HEIGHT and those of its ANSWERS": a PAGE holds it to the unit (promises 7, 17) */
    private static void tallWithAnswersIsHeldToTheUnit() {
        x.page(400, 0);
        lines(50);
        plain(0, 100, 1);
        x.answer(0, 100);
        x.answer(0, 100);
        x.answer(0, 99);
        x.answer(0, 1);
        is("TALL 400", x.pages(), 1);
        plain(0, 1, 0);
        is("another side", x.pages(), 1);
        x.page(399, 0);
        not("HEIGHT 399", x.pages(), 6);
    }

    /** "FIXED is a NOTE that stands at a told place from the top of its PAGE" (promises 11, 21) */
    private static void fixedFromTheTopOfItsPage() {
        x.page(20, 0);
        lines(15, 5, 15, 5);
        plain(3, 5, 0);
        x.fix(0, 0);
        is("place(0)", x.place(0), 0);
        is("pageOf(3)", x.pageOf(3), 1);
        is("cost(1)", x.cost(1), 0);
        is("moved(1)", x.moved(1), 1);
    }

    /** "SHOWN are NOTES of LAYERS that are shown; ... others are as if they were not there" (promises 14, 17, 25 to 27) */
    private static void hiddenOnesAreAsIfNotThere() {
        x.page(20, 0);
        lines(10, 10);
        x.note(0, 100, 20, 0, 1);
        x.note(0, 5, 1, 0, 2);
        x.fix(1, 19);
        x.note(1, 5, 1, 0, 0);
        x.bind(0, 1);
        x.bind(2, 1);
        not("SHOWN they have no room", x.pages(), 6);
        x.show(9);
        is("pages()", x.pages(), 1);
        is("cost(0)", x.cost(0), 0);
        is("runs(0, 0)", x.runs(0, 0), 1);
        is("moved(0)", x.moved(0), 0);
        is("column(2, 0)", x.column(2, 0), 0);
        is("place(2)", x.place(2), 10);
    }

    /** "SET are those that are SHOWN, with KEEP all" (promises 15, 17, 25 to 27, 23) */
    private static void withKeepAllAreSet() {
        x.page(40, 0);
        lines(10, 10);
        x.note(0, 15, 2, 0, 1);
        x.note(0, 15, 1, 0, 0);
        x.bind(0, 1);
        x.bind(1, 1);
        x.show(1);
        is("place(1)", x.place(1), 0);
        is("column(1, 0)", x.column(1, 0), 0);
        is("cost(0)", x.cost(0), 0);
        x.keep(true);
        is("place(1)", x.place(1), 15);
        is("column(1, 0)", x.column(1, 0), 1);
        is("cost(0)", x.cost(0), 15);
        is("runs(0, 0)", x.runs(0, 0), 1);
        is("moved(0)", x.moved(0), 1);
        x.page(29, 0);
        not("a kept one needs its room", x.pages(), 6);
        x.keep(false);
        is("else not", x.pages(), 1);
    }

    /** "ORDER of NOTES: by LINES" (promise 21) */
    private static void orderIsByLines() {
        x.page(100, 0);
        lines(1, 1, 1);
        plain(2, 10, 0);
        plain(1, 10, 0);
        plain(0, 10, 0);
        places(0, 20, 10, 0);
    }

    /** "of like ones by number": also when one comes to the LINE by move() (promises 13, 21) */
    private static void orderOfLikeOnesIsByNumber() {
        x.page(100, 0);
        lines(1, 1);
        plain(1, 10, 0);
        plain(0, 10, 0);
        plain(0, 10, 0);
        places(0, 20, 0, 10);
        x.move(0, 0);
        places(0, 0, 10, 20);
        x.move(1, 1);
        places(0, 0, 20, 10);
    }

    // ==== 2. SETTING

    /** "a TOP (a whole number, 0 or more)" (promise 21) */
    private static void topIsNotAboveThePage() {
        x.page(100, 0);
        lines(5, 5);
        x.note(0, 10, 1, 0, 0);
        x.note(0, 10, 20, 0, 0);
        x.note(1, 10, 20, 0, 0);
        places(0, 0, 10, 20);
        is("cost(0)", x.cost(0), 0 + 200 + 300);
    }

    /** "its TOP and TALL together are at most HEIGHT" (promises 17, 21) */
    private static void topAndTallAreAtMostHeight() {
        x.page(20, 0);
        lines(10, 10);
        plain(1, 10, 0);
        is("to the unit", x.place(0), 10);
        x.answer(0, 1);
        is("one above", x.place(0), 9);
        x.answer(0, 9);
        is("as tall as the PAGE", x.place(0), 0);
        is("cost(0)", x.cost(0), 10);
        x.answer(0, 1);
        not("taller than the PAGE", x.place(0), 6);
    }

    /** The same of a FIXED one (promises 11, 17) */
    private static void fixedTopAndTallAreAtMostHeight() {
        x.page(400, 0);
        lines(10);
        plain(0, 1, 0);
        x.fix(0, 399);
        is("place(0)", x.place(0), 399);
        x.fix(0, 400);
        not("place(0)", x.place(0), 6);
        x.page(20, 0);
        x.fix(0, 19);
        is("place(0)", x.place(0), 19);
        x.answer(0, 1);
        not("place(0)", x.place(0), 6);
    }

    /** "the later one's TOP is not less than the earlier one's TOP, TALL and GAP together" (promises 3, 17, 21) */
    private static void gapIsKeptToTheUnit() {
        x.page(20, 2);
        lines(5);
        plain(0, 9, 0);
        plain(0, 9, 0);
        places(0, 0, 11);
        x.page(19, 2);
        not("one less", x.pages(), 6);
        x.page(18, 0);
        places(0, 0, 9);
        x.page(17, 0);
        not("one less, GAP 0", x.pages(), 6);
        x.page(38, 20);
        places(0, 0, 29);
        x.page(37, 20);
        not("one less, GAP 20", x.pages(), 6);
    }

    /** "of two on one side": there is none ahead of the first, behind the last, or between the sides (promise 21) */
    private static void gapIsOnlyBetweenNotesOfOneSide() {
        x.page(10, 20);
        lines(10);
        plain(0, 10, 0);
        plain(0, 10, 1);
        stands(0, 0, 0, 0);
        stands(1, 1, 0, 0);
    }

    /** "a FIXED one's TOP is where it is told": near the one ahead to the unit, or there are no BREAKS (promise 11) */
    private static void fixedBehindAnother() {
        lines(10);
        plain(0, 5, 0);
        plain(0, 5, 0);
        x.fix(1, 7);
        places(0, 0, 7);
        x.fix(1, 6);
        not("GAP is not kept", x.pages(), 6);
        x.fix(1, 7);
        x.fix(0, 0);
        places(0, 0, 7);
        x.fix(0, 1);
        not("both FIXED, GAP is not kept", x.pages(), 6);
        x.fix(0, 50);
        not("both FIXED, against ORDER", x.pages(), 6);
    }

    /** The same, of one behind a FIXED one (promises 11, 21) */
    private static void anotherBehindFixed() {
        lines(10);
        plain(0, 5, 0);
        plain(0, 5, 0);
        x.fix(0, 88);
        places(0, 88, 95);
        is("only the loose one has a COST", x.cost(0), 95);
        x.fix(0, 89);
        not("no room behind it", x.pages(), 6);
    }

    /** The same, of some between two FIXED ones (promise 21) */
    private static void betweenTwoFixed() {
        x.page(100, 1);
        lines(50, 10);
        for (int i = 0; i < 4; i++) plain(1, 10, 0);
        x.fix(0, 0);
        x.fix(3, 33);
        places(0, 0, 11, 22, 33);
        x.fix(3, 32);
        not("one less", x.pages(), 6);
        x.fix(3, 34);
        places(0, 0, 12, 23, 34);
    }

    /** A FIXED one of SIDE EITHER goes where it has room (promises 11, 20) */
    private static void fixedOfEitherSide() {
        lines(10);
        plain(0, 5, 0);
        x.fix(0, 0);
        plain(0, 5, 2);
        x.fix(1, 0);
        stands(1, 1, 0, 0);
        x.fix(1, 7);
        stands(1, 0, 7, 0);
        x.fix(1, 6);
        stands(1, 1, 6, 0);
        plain(0, 5, 1);
        x.fix(2, 12);
        not("neither side has room", x.side(1), 6);
    }

    // ---- CUTS

    /** "The last one in ORDER of a side ... can be CUT": no other (promises 8, 17, 22) */
    private static void onlyTheLastOfASideIsCut() {
        x.page(20, 0);
        lines(10);
        plain(0, 15, 0);
        x.cut(0, 10);
        plain(0, 10, 0);
        not("the earlier one is LONG", x.pages(), 6);
        x.cut(1, 5);
        places(0, 0, 15);
        is("the later one is CUT", x.rest(1), 5);
        is("the earlier one is not", x.rest(0), 0);
    }

    /** "of a side": it need not be the last of the PAGE; each side has its own (promise 22) */
    private static void eachSideHasItsLast() {
        x.page(20, 0);
        lines(10, 10);
        plain(0, 30, 0);
        x.cut(0, 20);
        plain(1, 30, 1);
        x.cut(1, 10);
        stands(0, 0, 0, 10);
        stands(1, 1, 10, 20);
        is("two CUTS", x.cost(0), 100);
        is("pages()", x.pages(), 2);
        is("runs(1, 0)", x.runs(1, 0), 1);
        is("runs(1, 1)", x.runs(1, 1), 1);
    }

    /** The last of those that are SET (promises 14, 15, 22) */
    private static void theLastOfThoseThatAreSet() {
        x.page(20, 0);
        lines(10);
        plain(0, 25, 0);
        x.cut(0, 10);
        x.note(0, 5, 1, 0, 1);
        not("one is behind it", x.pages(), 6);
        x.show(1);
        stands(0, 0, 0, 15);
        x.keep(true);
        not("a kept one is behind it", x.pages(), 6);
    }

    /** "if it is LONG": else it is whole (promises 8, 17, 22) */
    private static void onlyALongOneIsCut() {
        x.page(20, 0);
        x.cutting(0);
        lines(20);
        plain(0, 21, 0);
        not("pages()", x.pages(), 6);
        x.cut(0, 1);
        stands(0, 0, 0, 20);
    }

    /** "and not FIXED" (promises 11, 22) */
    private static void aFixedOneIsNotCut() {
        x.page(20, 0);
        x.cutting(0);
        lines(10);
        plain(0, 21, 0);
        x.cut(0, 10);
        x.fix(0, 0);
        not("pages()", x.pages(), 6);
        x.loose(0);
        stands(0, 0, 0, 11);
    }

    /** "that is its TALL then": TOP and CUT together are at most HEIGHT (promises 21, 22) */
    private static void aCutIsItsTall() {
        x.page(20, 0);
        lines(10, 10);
        x.note(1, 30, 3, 0, 0);
        x.cut(0, 11);
        stands(0, 0, 9, 19);
        is("cost(0)", x.cost(0), 53);
        x.cut(0, 10);
        stands(0, 0, 10, 20);
        is("cost(0)", x.cost(0), 50);
    }

    /** The least CUT is 1, the greatest HEIGHT - 1 (promises 8, 21, 22) */
    private static void theLeastAndTheGreatestCut() {
        x.page(20, 0);
        lines(19, 1);
        x.note(1, 20, 20, 0, 0);
        stands(0, 0, 0, 0);
        x.cut(0, 1);
        stands(0, 0, 19, 19);
        x.note(0, 21, 20, 1, 0);
        x.cut(1, 20);
        stands(1, 1, 0, 1);
    }

    /** A CUT above HEIGHT has no room (promises 8, 17) */
    private static void aCutAboveHeightHasNoRoom() {
        x.page(20, 0);
        lines(10);
        plain(0, 40, 0);
        x.cut(0, 21);
        not("pages()", x.pages(), 6);
        x.page(21, 0);
        stands(0, 0, 0, 19);
    }

    /** "the rest of its HEIGHT is CARRIED: it stands on the next PAGE, on that side, ahead of all others, with TOP 0" */
    private static void theRestStandsAheadOfAllOthers() {
        x.page(20, 2);
        lines(20, 5, 15);
        plain(0, 25, 1);
        x.cut(0, 20);
        plain(1, 5, 1);
        plain(1, 5, 0);
        stands(0, 1, 0, 5);
        stands(1, 1, 7, 0);
        stands(2, 0, 0, 0);
        is("pageOf(1)", x.pageOf(1), 1);
        is("cost(1): what is CARRIED has none", x.cost(1), 7);
        is("runs(1, 1)", x.runs(1, 1), 1);
    }

    /** A FIXED one keeps the GAP behind the rest to the unit (promises 11, 18) */
    private static void fixedBehindTheRest() {
        x.page(20, 2);
        lines(20, 5);
        plain(0, 25, 0);
        x.cut(0, 20);
        plain(1, 5, 0);
        x.fix(1, 7);
        pagesOf(0, 1);
        x.fix(1, 6);
        pagesOf(0, 2);
        is("place(1)", x.place(1), 6);
        is("a PAGE without LINES", x.runs(1, 0), 1);
    }

    /** "whole": the rest is not CUT once more, though a CUT would make room (promises 17, 18) */
    private static void theRestIsWhole() {
        x.page(20, 0);
        x.cutting(0);
        lines(20, 20);
        plain(0, 38, 0);
        x.cut(0, 20);
        x.cut(0, 30);
        plain(1, 3, 0);
        stands(0, 0, 0, 18);
        pagesOf(0, 2);
        is("pages()", x.pages(), 3);
    }

    /** "a rest above the HEIGHT of a PAGE can't be" (promises 17, 22) */
    private static void aRestAboveHeightCantBe() {
        x.page(20, 0);
        lines(20);
        plain(0, 40, 0);
        x.cut(0, 20);
        stands(0, 0, 0, 20);
        is("pages()", x.pages(), 2);
        begin("a rest one above HEIGHT");
        x.page(20, 0);
        lines(20);
        plain(0, 41, 0);
        x.cut(0, 20);
        not("pages()", x.pages(), 6);
    }

    /** The same: then another CUT is BEST, though it costs more (promise 22) */
    private static void anotherCutThanOneThatCantBe() {
        x.page(20, 0);
        lines(10, 10);
        plain(1, 30, 0);
        x.cut(0, 9);
        not("a rest of 21", x.pages(), 6);
        x.cut(0, 12);
        stands(0, 0, 8, 18);
        is("cost(0)", x.cost(0), 52);
    }

    // ---- COST

    /** "WEIGHT times how far its TOP is from the top of its LINE", above it and below it (promise 25) */
    private static void costOfBothWays() {
        x.page(20, 0);
        lines(5, 15);
        x.note(0, 5, 7, 0, 0);
        x.fix(0, 0);
        x.note(0, 5, 3, 0, 0);
        x.note(1, 18, 2, 1, 0);
        is("3 times 5 below, 2 times 3 above", x.cost(0), 15 + 6);
    }

    /** The greatest COST of a side, by WEIGHT 20 (promises 6, 25) */
    private static void theGreatestCosts() {
        x.page(400, 20);
        lines(1);
        for (int i = 0; i < 19; i++) x.note(0, 1, 20, 0, 0);
        is("place(18)", x.place(18), 378);
        is("cost(0)", x.cost(0), 20 * 21 * 171);
    }

    /** "but FIXED ones": they have none, however far (promises 11, 25) */
    private static void fixedOnesCostNothing() {
        x.page(400, 0);
        lines(1);
        x.note(0, 1, 20, 0, 0);
        x.fix(0, 399);
        is("cost(0)", x.cost(0), 0);
        x.loose(0);
        x.fix(0, 0);
        is("cost(0)", x.cost(0), 0);
    }

    /** "for each CUT CUTTING": on the PAGE where it is CUT, not where the rest stands (promises 9, 25) */
    private static void cuttingIsPaidWhereItIsCut() {
        x.page(20, 0);
        lines(20, 20);
        plain(0, 30, 0);
        x.cut(0, 20);
        is("cost(0)", x.cost(0), 50);
        is("cost(1)", x.cost(1), 0);
        plain(0, 30, 1);
        x.cut(1, 20);
        is("cost(0), two CUTS", x.cost(0), 100);
        is("cost(1)", x.cost(1), 0);
    }

    // ---- BEST

    /** "NOTE by NOTE in ORDER, by the side (left ahead)": the first NOTE's side counts most (promise 20) */
    private static void bestByTheFirstNotesSide() {
        x.page(100, 0);
        lines(1, 1);
        plain(1, 10, 2);
        stands(0, 0, 1, 0);
        plain(0, 10, 2);
        stands(1, 0, 0, 0);
        stands(0, 1, 1, 0);
    }

    /** The same with three: left, left, right is ahead of left, right, left (promise 20) */
    private static void bestBySidesNoteByNote() {
        x.page(100, 0);
        lines(50, 10);
        for (int i = 0; i < 3; i++) plain(1, 10, 2);
        stands(0, 0, 40, 0);
        stands(1, 0, 50, 0);
        stands(2, 1, 50, 0);
        is("cost(0)", x.cost(0), 10);
    }

    /** A side that the first NOTE must take leaves both to one of the next LINE (promises 18, 20) */
    private static void sidesOfNotesOfTwoLines() {
        x.page(20, 0);
        lines(5, 5);
        plain(0, 10, 0);
        plain(0, 15, 2);
        plain(1, 10, 2);
        pagesOf(0, 0);
        stands(1, 1, 0, 0);
        stands(2, 0, 10, 0);
        x.answer(2, 1);
        pagesOf(0, 1);
        stands(2, 0, 0, 0);
    }

    /** The least COST is ahead of the sides (promise 20) */
    private static void costIsAheadOfSides() {
        x.page(100, 0);
        lines(10);
        plain(0, 10, 0);
        plain(0, 10, 2);
        stands(1, 1, 0, 0);
        plain(0, 10, 1);
        stands(1, 0, 10, 0);
        stands(2, 1, 0, 0);
    }

    /** "then by the left side's CUT": the side is ahead of it, so a CUT on the left is ahead of none on the right */
    private static void sidesAreAheadOfCuts() {
        x.page(20, 0);
        x.cutting(10);
        lines(10, 10);
        plain(0, 10, 0);
        x.fix(0, 0);
        plain(1, 20, 2);
        x.cut(1, 10);
        stands(1, 0, 10, 10);
        is("cost(0)", x.cost(0), 10);
        x.cutting(11);
        stands(1, 1, 0, 0);
        is("cost(0)", x.cost(0), 10);
    }

    /** "(none ... ahead)" of like COST, on either side (promise 22) */
    private static void noCutIsAhead() {
        for (int side = 0; side < 2; side++) {
            begin("no CUT is ahead, side " + side);
            x.page(20, 0);
            x.cutting(10);
            lines(10, 10);
            plain(1, 20, side);
            x.cut(0, 10);
            stands(0, side, 0, 0);
            x.cutting(9);
            stands(0, side, 10, 10);
            x.cutting(0);
            x.move(0, 0);
            stands(0, side, 0, 0);
        }
    }

    /** The same where other NOTES cost too, so that the COST is above CUTTING (promise 22) */
    private static void noCutIsAheadAboveCutting() {
        for (int side = 0; side < 2; side++) {
            begin("no CUT is ahead, though others cost, side " + side);
            x.page(20, 0);
            x.cutting(10);
            lines(5, 5, 10);
            plain(0, 3, side);
            plain(0, 3, side);
            plain(2, 14, side);
            x.cut(2, 5);
            stands(2, side, 6, 0);
            is("cost(0): 3 and 4", x.cost(0), 7);
            x.cutting(4);
            stands(2, side, 6, 0);
            x.cutting(3);
            stands(2, side, 10, 9);
            is("cost(0): 3 and a CUT", x.cost(0), 6);
        }
    }

    /** "then the greatest ahead" where other NOTES cost too (promise 22) */
    private static void theGreatestCutIsAheadAboveCutting() {
        int[][] told = {{3, 9, 7}, {9, 7, 3}, {7, 3, 9}};
        for (int side = 0; side < 2; side++) for (int[] cuts : told) {
            begin("the greatest CUT is ahead, though others cost, side " + side);
            x.page(20, 0);
            lines(5, 5, 10);
            plain(0, 3, side);
            plain(0, 3, side);
            plain(2, 21, side);
            for (int at : cuts) x.cut(2, at);
            stands(2, side, 10, 12);
            is("cost(0)", x.cost(0), 53);
        }
    }

    /** "then the greatest ahead" of like COST, on either side, in whatever order they were told (promise 22) */
    private static void theGreatestCutIsAhead() {
        int[][] told = {{3, 9, 7}, {9, 7, 3}, {7, 3, 9}};
        for (int side = 0; side < 2; side++) for (int[] cuts : told) {
            begin("the greatest CUT is ahead, side " + side);
            x.page(20, 0);
            lines(10, 10);
            plain(1, 21, side);
            for (int at : cuts) x.cut(0, at);
            stands(0, side, 10, 12);
            is("cost(0)", x.cost(0), 50);
        }
    }

    /** A greater CUT that costs more is not BEST (promise 22) */
    private static void costIsAheadOfTheGreatestCut() {
        x.page(20, 0);
        lines(10, 10);
        plain(1, 21, 0);
        x.cut(0, 11);
        x.cut(0, 4);
        stands(0, 0, 10, 17);
        is("cost(0)", x.cost(0), 50);
    }

    /** "then NOTE by NOTE in ORDER by the lesser TOP" (promise 21) */
    private static void theLesserTopIsAhead() {
        x.page(100, 0);
        lines(50, 10);
        x.note(1, 10, 3, 0, 0);
        x.note(1, 10, 3, 0, 0);
        places(0, 40, 50);
        x.note(1, 10, 3, 0, 0);
        x.note(1, 10, 3, 0, 0);
        places(0, 30, 40, 50, 60);
        is("cost(0)", x.cost(0), 3 * (20 + 10 + 0 + 10));
    }

    /** The same by WEIGHTS: one more on either part decides (promise 21) */
    private static void weightsDecide() {
        x.page(100, 0);
        lines(50, 10);
        x.note(1, 10, 3, 0, 0);
        x.note(1, 10, 2, 0, 0);
        places(0, 50, 60);
        begin("the lesser TOP, WEIGHTS 2 and 3");
        x.page(100, 0);
        lines(50, 10);
        x.note(1, 10, 2, 0, 0);
        x.note(1, 10, 3, 0, 0);
        places(0, 40, 50);
    }

    /** Notes of different LINES that crowd: each WEIGHT pulls the pile (promise 21) */
    private static void aPileOfSeveralLines() {
        x.page(100, 0);
        lines(20, 5, 5, 5);
        x.note(1, 10, 1, 0, 0);
        x.note(2, 10, 5, 0, 0);
        x.note(3, 10, 1, 0, 0);
        places(0, 15, 25, 35);
        is("cost(0)", x.cost(0), 5 + 0 + 5);
        x.note(3, 10, 9, 0, 0);
        places(0, 0, 10, 20, 30);
        is("cost(0): 20, 5 times 15, 10", x.cost(0), 20 + 75 + 10);
    }

    /** All 24 NOTES on one side, each at its LINE, then all pushed by the first one (promises 6, 18, 21) */
    private static void twentyFourNotesOfOneSide() {
        x.page(61, 0);
        for (int i = 0; i < 60; i++) x.line(1);
        for (int i = 0; i < 24; i++) plain(2 * i, 2, 1);
        x.answer(23, 12);
        is("cost(0)", x.cost(0), 0);
        for (int i = 0; i < 24; i++) is("place(" + i + ")", x.place(i), 2 * i);
        x.answer(0, 1);
        is("cost(0): all but the first are one lower", x.cost(0), 23);
        for (int i = 1; i < 24; i++) is("place(" + i + ")", x.place(i), 2 * i + 1);
        x.answer(0, 1);
        is("the last one's LINE goes on", x.pageOf(46), 1);
        is("cost(0)", x.cost(0), 44);
    }

    /** All 24 NOTES on one side, apart from one another, then some pushed by the first one (promises 21, 26, 27) */
    private static void twentyFourNotesApart() {
        x.page(60, 0);
        for (int i = 0; i < 60; i++) x.line(1);
        for (int i = 0; i < 24; i++) plain(2 * i, 1, 0);
        is("cost(0)", x.cost(0), 0);
        is("runs(0, 0)", x.runs(0, 0), 24);
        is("moved(0)", x.moved(0), 0);
        for (int i = 0; i < 24; i++) is("place(" + i + ")", x.place(i), 2 * i);
        x.answer(0, 10);
        for (int i = 1; i < 24; i++) is("place(" + i + ")", x.place(i), Math.max(10 + i, 2 * i));
        is("cost(0)", x.cost(0), 45);
        is("moved(0)", x.moved(0), 9);
        is("runs(0, 0)", x.runs(0, 0), 14);
    }

    // ---- HELD

    /** "its LINES' HEIGHTS together are at most HEIGHT" (promises 17 to 19) */
    private static void linesTogetherAreAtMostHeight() {
        x.page(100, 0);
        lines(50, 49, 1, 1);
        pagesOf(0, 0, 0, 1);
        x.page(99, 0);
        pagesOf(0, 0, 1, 1);
        x.page(50, 0);
        pagesOf(0, 1, 1, 2);
        x.page(49, 0);
        not("a LINE above HEIGHT", x.pages(), 6);
    }

    /** "it has at most 6 SET NOTES of SIDE EITHER" (promises 17, 18) */
    private static void atMost6OfSideEither() {
        lines(1, 1);
        for (int i = 0; i < 6; i++) plain(0, 1, 2);
        is("6", x.pages(), 1);
        plain(1, 1, 2);
        pagesOf(0, 1);
        plain(1, 1, 0);
        x.move(6, 0);
        not("7 of one LINE", x.pages(), 6);
    }

    /** "SET": hidden ones do not count, kept ones do; nor do those of a side (promises 14, 15, 18) */
    private static void hiddenOfSideEitherDoNotCount() {
        lines(1, 1);
        for (int i = 0; i < 6; i++) plain(0, 1, 2);
        for (int i = 0; i < 3; i++) plain(1, 1, i % 2);
        pagesOf(0, 0);
        x.note(1, 1, 1, 2, 3);
        pagesOf(0, 1);
        x.show(7);
        pagesOf(0, 0);
        x.keep(true);
        pagesOf(0, 1);
    }

    /** FIXED ones of SIDE EITHER count too (promises 11, 18) */
    private static void fixedOfSideEitherCount() {
        x.page(100, 0);
        lines(1, 1);
        for (int i = 0; i < 6; i++) {
            plain(0, 1, 2);
            x.fix(i, i);
        }
        plain(1, 1, 2);
        x.fix(6, 50);
        pagesOf(0, 1);
    }

    /** What is CARRIED is no NOTE of the PAGE's LINES, so it is not one of the 6 (promise 18) */
    private static void whatIsCarriedIsNoneOfThe6() {
        x.page(20, 0);
        lines(20, 5);
        plain(0, 22, 2);
        x.cut(0, 20);
        for (int i = 0; i < 6; i++) plain(1, 1, 2);
        pagesOf(0, 1);
        is("rest(0)", x.rest(0), 2);
        plain(1, 1, 2);
        not("7 of one LINE", x.pages(), 6);
    }

    // ---- BREAKS

    /** "each PAGE has as many LINES as it can": one that can't be HELD ends it, though the next could (promise 18) */
    private static void aLineThatIsNotHeldEndsThePage() {
        x.page(20, 0);
        lines(5, 5, 5, 5);
        plain(0, 15, 0);
        plain(1, 6, 0);
        pagesOf(0, 1, 1, 1);
        x.answer(1, 9);
        plain(3, 6, 0);
        pagesOf(0, 1, 1, 2);
        is("pages()", x.pages(), 3);
    }

    /** A LINE comes to the PAGE also if a NOTE must be CUT for it (promises 18, 22) */
    private static void aCutMakesRoomForALine() {
        x.page(20, 0);
        x.cutting(1000);
        lines(5, 5);
        plain(0, 15, 0);
        plain(1, 6, 0);
        pagesOf(0, 1);
        x.cut(1, 5);
        pagesOf(0, 0);
        stands(1, 0, 15, 1);
        is("cost(0)", x.cost(0), 1000 + 10);
        is("pages()", x.pages(), 2);
    }

    /** "one at least, if nothing is CARRIED to it ... If a PAGE cannot be HELD so, there are no BREAKS" (promise 17) */
    private static void oneLineAtLeast() {
        x.page(20, 0);
        lines(10, 10, 10);
        plain(2, 20, 0);
        pagesOf(0, 0, 1);
        x.answer(0, 1);
        not("the last LINE alone", x.pages(), 6);
        not("nor for the first LINE", x.pageOf(0), 6);
        x.move(0, 0);
        not("the first LINE alone", x.pages(), 6);
        not("nor for the last LINE", x.pageOf(2), 6);
    }

    /** "so that it is HELD with these and with what ... CARRIES to it": to the unit, on either side (promise 18) */
    private static void heldWithWhatIsCarried() {
        for (int side = 0; side < 2; side++) {
            begin("HELD with what is CARRIED, side " + side);
            x.page(20, 1);
            lines(20, 5);
            plain(0, 30, side);
            x.cut(0, 20);
            plain(1, 9, side);
            pagesOf(0, 1);
            is("place(1)", x.place(1), 11);
            x.answer(1, 1);
            pagesOf(0, 2);
            is("place(1)", x.place(1), 0);
            is("pages()", x.pages(), 3);
            is("runs(1, side)", x.runs(1, side), 1);
        }
    }

    /** A NOTE of SIDE EITHER gives way to what is CARRIED (promises 18, 20) */
    private static void eitherGivesWayToWhatIsCarried() {
        x.page(20, 0);
        lines(20, 5);
        plain(0, 40, 0);
        x.cut(0, 20);
        plain(1, 20, 2);
        pagesOf(0, 1);
        stands(1, 1, 0, 0);
        plain(0, 21, 1);
        x.cut(2, 20);
        pagesOf(0, 2);
        stands(1, 0, 0, 0);
    }

    /** A rest as tall as the PAGE leaves room for LINES without NOTES on its side (promise 18) */
    private static void aFullRestLeavesRoomForLines() {
        x.page(20, 0);
        lines(20, 20, 1);
        plain(0, 40, 0);
        x.cut(0, 20);
        plain(1, 20, 1);
        pagesOf(0, 1, 2);
        is("pages()", x.pages(), 3);
    }

    /** Behind a PAGE that had no LINES nothing is CARRIED: "one at least" holds again (promise 17) */
    private static void behindAPageWithoutLines() {
        x.page(20, 0);
        lines(20, 5);
        plain(0, 40, 0);
        x.cut(0, 20);
        plain(1, 20, 0);
        pagesOf(0, 2);
        x.answer(1, 1);
        not("it can't be HELD there either", x.pages(), 6);
    }

    /** A NOTE CUT on the PAGE to which another was CARRIED: the rests follow one another (promises 17, 22) */
    private static void restUponRest() {
        x.page(20, 0);
        lines(20, 20, 20);
        plain(0, 30, 0);
        x.cut(0, 20);
        plain(1, 30, 0);
        x.cut(1, 10);
        x.cut(1, 11);
        pagesOf(0, 1, 2);
        stands(0, 0, 0, 10);
        stands(1, 0, 10, 20);
        is("cost(1)", x.cost(1), 10 + 50);
        is("runs(1, 0)", x.runs(1, 0), 1);
        is("runs(2, 0)", x.runs(2, 0), 1);
        is("pages()", x.pages(), 3);
    }

    /** "PAGES go on behind the last LINE, if something is CARRIED" (promises 17, 25 to 27) */
    private static void pagesGoOnBehindTheLastLine() {
        x.page(20, 0);
        lines(20);
        plain(0, 21, 1);
        x.cut(0, 20);
        is("pages()", x.pages(), 2);
        is("cost(1)", x.cost(1), 0);
        is("runs(1, 0)", x.runs(1, 0), 0);
        is("runs(1, 1)", x.runs(1, 1), 1);
        is("moved(1)", x.moved(1), 0);
        not("cost(2)", x.cost(2), 1);
        not("runs(2, 1)", x.runs(2, 1), 1);
        not("moved(2)", x.moved(2), 1);
        x.page(21, 0);
        is("nothing is CARRIED", x.pages(), 1);
    }

    /** What is told behind an answer counts for the next answer (promises 3, 5 to 11, 13 to 15) */
    private static void whatIsToldLaterCounts() {
        x.page(20, 0);
        lines(10, 10);
        plain(1, 5, 2);
        x.note(0, 5, 1, 0, 1);
        stands(0, 0, 10, 0);
        x.change(0, 11);
        is("change: the LINE goes on", x.pageOf(1), 1);
        x.page(21, 0);
        is("page", x.place(0), 11);
        x.answer(1, 7);
        stands(0, 1, 11, 0);
        x.show(1);
        stands(0, 0, 11, 0);
        x.keep(true);
        stands(0, 1, 11, 0);
        x.move(0, 0);
        stands(0, 1, 0, 0);
        x.fix(0, 12);
        stands(0, 1, 12, 0);
        x.loose(0);
        stands(0, 1, 0, 0);
        x.move(1, 1);
        stands(0, 0, 0, 0);
        is("cost(0): 12 of 21 below 11", x.cost(0), 2);
    }

    // ---- RUN

    /** "in which each next one stands as near as it may (TOP, TALL and GAP)": one unit more parts them (promise 26) */
    private static void aRunIsNearToTheUnit() {
        x.page(100, 3);
        lines(10, 10);
        plain(0, 5, 0);
        x.answer(0, 2);
        plain(1, 5, 0);
        is("5, 2 and 3 are 10", x.runs(0, 0), 1);
        x.page(100, 2);
        is("5, 2 and 2 are 9", x.runs(0, 0), 2);
        x.fix(1, 9);
        is("FIXED near", x.runs(0, 0), 1);
        x.fix(1, 10);
        is("FIXED one off", x.runs(0, 0), 2);
    }

    /** "A RUN of a side": none without NOTES, one of one; the other side does not part it (promise 26) */
    private static void runsAreOfOneSide() {
        x.page(100, 0);
        lines(10, 10, 10);
        is("runs(0, 0)", x.runs(0, 0), 0);
        plain(0, 10, 0);
        is("runs(0, 0)", x.runs(0, 0), 1);
        is("runs(0, 1)", x.runs(0, 1), 0);
        plain(1, 10, 1);
        plain(1, 10, 0);
        plain(2, 10, 1);
        is("runs(0, 0)", x.runs(0, 0), 1);
        is("runs(0, 1)", x.runs(0, 1), 1);
        x.fix(3, 90);
        is("runs(0, 1)", x.runs(0, 1), 2);
        x.page(10, 0);
        not("runs(0, 0)", x.runs(0, 0), 6);
        x.loose(3);
        is("runs(0, 1): it is on PAGE 1", x.runs(0, 1), 0);
        is("runs(2, 1)", x.runs(2, 1), 1);
    }

    /** "(and what is CARRIED to it)": it begins a RUN, and the next one may be of it (promise 26) */
    private static void whatIsCarriedIsOfARun() {
        x.page(20, 1);
        lines(20, 4, 5);
        plain(0, 23, 0);
        x.cut(0, 20);
        is("alone", x.runs(1, 0), 1);
        plain(1, 5, 0);
        is("place(1)", x.place(1), 4);
        is("near", x.runs(1, 0), 1);
        x.fix(1, 5);
        is("one off", x.runs(1, 0), 2);
        is("the PAGE ahead", x.runs(0, 0), 1);
    }

    // ---- BRACKETS and COLUMNS

    /** "from the top of the first such LINE to the end of the last one" (promise 24) */
    private static void bracketOfOneLine() {
        lines(7, 11, 13);
        plain(1, 5, 0);
        x.bind(0, 1);
        is("begin", x.bracket(0, 0, false), 7);
        is("end", x.bracket(0, 0, true), 18);
        x.bind(0, 2);
        is("begin", x.bracket(0, 0, false), 7);
        is("end", x.bracket(0, 0, true), 31);
    }

    /** "of which LINES of the span are on the PAGE": over PAGES it ends and begins anew (promise 24) */
    private static void bracketOverPages() {
        x.page(20, 0);
        lines(5, 15, 20, 5, 5);
        plain(1, 5, 0);
        x.bind(0, 3);
        int[] begins = {5, 0, 0}, ends = {20, 20, 5};
        for (int page = 0; page < 3; page++) {
            is("begin on " + page, x.bracket(0, page, false), begins[page]);
            is("end on " + page, x.bracket(0, page, true), ends[page]);
            is("column on " + page, x.column(0, page), 0);
        }
        not("PAGE 3", x.bracket(0, 3, false), 1);
    }

    /** A PAGE without LINES has no BRACKET, though the span goes on behind it (promises 23, 24) */
    private static void noBracketOnAPageWithoutLines() {
        x.page(20, 0);
        lines(20, 20);
        plain(0, 40, 0);
        x.cut(0, 20);
        plain(1, 20, 0);
        x.bind(0, 1);
        is("PAGE 0", x.bracket(0, 0, true), 20);
        not("PAGE 1", x.bracket(0, 1, true), 8);
        not("PAGE 1", x.column(0, 1), 8);
        is("PAGE 2", x.bracket(0, 2, true), 20);
    }

    /** "that it meets (in some height above 0)": one that ends where the other begins does not (promise 23) */
    private static void bracketsThatTouchDoNotMeet() {
        lines(10, 1, 10);
        plain(0, 1, 0);
        plain(1, 1, 0);
        x.bind(0, 0);
        x.bind(1, 2);
        is("they touch", x.column(1, 0), 0);
        x.bind(0, 1);
        is("they meet in one unit", x.column(1, 0), 1);
        is("the first has its own", x.column(0, 0), 0);
    }

    /** "the least from 0 on": a COLUMN that is free is taken, between taken ones too (promise 23) */
    private static void theLeastFreeColumn() {
        lines(10, 10, 10, 10);
        for (int i = 0; i < 3; i++) plain(0, 1, 0);
        x.bind(0, 3);
        x.bind(1, 0);
        x.bind(2, 3);
        plain(1, 1, 0);
        x.bind(3, 3);
        plain(1, 1, 0);
        x.bind(4, 1);
        int[] due = {0, 1, 2, 1, 3};
        for (int note = 0; note < 5; note++) is("column(" + note + ", 0)", x.column(note, 0), due[note]);
    }

    /** As many COLUMNS as there are NOTES (promise 23) */
    private static void twentyFourColumns() {
        x.page(100, 0);
        lines(10);
        for (int i = 0; i < 24; i++) {
            plain(0, 1, 0);
            x.bind(i, 0);
        }
        for (int i = 0; i < 24; i++) is("column(" + i + ", 0)", x.column(i, 0), i);
    }

    /** "NOTE by NOTE in ORDER", not by number (promises 13, 23) */
    private static void columnsAreInOrder() {
        lines(10, 10);
        plain(1, 1, 0);
        plain(0, 1, 0);
        x.bind(0, 1);
        x.bind(1, 1);
        is("column(1, 0)", x.column(1, 0), 0);
        is("column(0, 0)", x.column(0, 0), 1);
        x.move(0, 0);
        is("column(0, 0)", x.column(0, 0), 0);
        is("column(1, 0)", x.column(1, 0), 1);
    }

    /** "on that side of the PAGE": by the side where a NOTE stands, EITHER too (promises 20, 23) */
    private static void columnsAreOfASide() {
        x.page(100, 0);
        lines(10);
        plain(0, 10, 0);
        plain(0, 10, 2);
        plain(0, 10, 1);
        x.fix(2, 50);
        for (int i = 0; i < 3; i++) x.bind(i, 0);
        is("side(1)", x.side(1), 1);
        is("column(0, 0)", x.column(0, 0), 0);
        is("column(1, 0)", x.column(1, 0), 0);
        is("column(2, 0)", x.column(2, 0), 1);
        x.fix(0, 50);
        x.fix(2, 0);
        is("side(1)", x.side(1), 0);
        is("column(1, 0)", x.column(1, 0), 1);
        is("column(2, 0)", x.column(2, 0), 0);
    }

    /** "of the PAGE": a BRACKET that goes on is set anew among those of that PAGE (promise 23) */
    private static void columnsAreOfAPage() {
        x.page(20, 0);
        lines(10, 10, 10, 10);
        plain(0, 1, 0);
        plain(1, 1, 0);
        plain(2, 1, 0);
        x.bind(0, 1);
        x.bind(1, 3);
        x.bind(2, 2);
        is("PAGE 0", x.column(1, 0), 1);
        is("PAGE 1: the first ended", x.column(1, 1), 0);
        is("PAGE 1", x.column(2, 1), 1);
    }

    /** One that is BOUND but hidden has no BRACKET, with KEEP it has (promises 14, 15, 23) */
    private static void hiddenBracketsAreNotThere() {
        lines(10);
        x.note(0, 1, 1, 0, 1);
        x.note(0, 1, 1, 0, 0);
        x.bind(0, 0);
        x.bind(1, 0);
        is("column(1, 0)", x.column(1, 0), 1);
        x.show(1);
        is("column(1, 0)", x.column(1, 0), 0);
        x.keep(true);
        is("column(1, 0)", x.column(1, 0), 1);
    }

    // ==== 3. STATUS

    /** Makes a book with some of everything, and tells all that it answers. */
    private static String lookAtANewBook() {
        x.page(30, 1);
        lines(10, 20, 5);
        x.note(0, 10, 2, 0, 0);
        x.note(1, 35, 3, 2, 1);
        x.note(2, 4, 1, 1, 0);
        x.answer(0, 3);
        x.cut(1, 15);
        x.fix(2, 12);
        x.bind(0, 1);
        return look(3, 3, 2);
    }

    /** "A call with another STATUS than 0 gives NONE, or false, and changes nothing but STATUS" (promises 3 to 5, 9, 14) */
    private static void refusedCallsOfThePageChangeNothing() {
        String ahead = lookAtANewBook();
        not("page", x.page(9, 5), 2);
        not("page", x.page(50, 21), 2);
        not("line", x.line(51), 2);
        not("change", x.change(3, 5), 1);
        not("change", x.change(0, 0), 2);
        not("cutting", x.cutting(1001), 2);
        not("show", x.show(16), 2);
        not("told", x.told(0, 10), 2);
        not("runs", x.runs(0, 2), 2);
        not("cost", x.cost(9), 1);
        same("behind refused calls", look(3, 3, 2), ahead);
    }

    /** The same (promises 6 to 8, 10 to 13) */
    private static void refusedCallsOfNotesChangeNothing() {
        String ahead = lookAtANewBook();
        not("note", x.note(3, 5, 1, 0, 0), 1);
        not("note", x.note(0, 101, 1, 0, 0), 2);
        not("answer", x.answer(0, 101), 2);
        not("answer", x.answer(1, 5), 7);
        not("cut", x.cut(0, 5), 7);
        not("cut", x.cut(1, 35), 2);
        not("cut", x.cut(1, 15), 4);
        not("bind", x.bind(1, 0), 2);
        not("bind", x.bind(0, 3), 1);
        not("fix", x.fix(0, 401), 2);
        not("fix", x.fix(2, -1), 2);
        not("loose", x.loose(0), 4);
        not("move", x.move(0, 0), 4);
        not("move", x.move(0, 3), 1);
        same("behind refused calls", look(3, 3, 2), ahead);
    }

    /** The same in a full book: the calls that are 3 (promises 4, 6 to 8) */
    private static void refusedCallsOfAFullBook() {
        for (int i = 0; i < 60; i++) x.line(1);
        for (int i = 0; i < 24; i++) x.note(i, 4, 1, i % 2, 0);
        for (int i = 0; i < 4; i++) x.answer(0, 1);
        for (int i = 1; i <= 3; i++) x.cut(1, i);
        int cost = x.cost(0);
        String ahead = look(3, 3, 1);
        not("line", x.line(1), 3);
        not("note", x.note(0, 1, 1, 0, 0), 3);
        not("answer", x.answer(0, 1), 3);
        not("cut", x.cut(1, 2), 3);
        same("behind refused calls", look(3, 3, 1), ahead);
        is("cost(0)", x.cost(0), cost);
    }

    /** The same without BREAKS: what is asked changes nothing (promises 17 to 27) */
    private static void questionsWithoutBreaksChangeNothing() {
        x.page(20, 0);
        lines(10, 21);
        plain(0, 5, 0);
        String ahead = look(2, 1, 1);
        same("asked again", look(2, 1, 1), ahead);
        x.change(1, 10);
        is("pages()", x.pages(), 1);
        is("place(0)", x.place(0), 0);
    }
}
