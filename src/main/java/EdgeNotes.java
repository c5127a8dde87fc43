/** Sets notes at the edges of pages. The document's words in capitals are used in the comments as it means them. */
public final class EdgeNotes {
    public static final int NONE = -1;

    private static final int OK = 0;
    private static final int NO_SUCH = 1;
    private static final int BAD_NUMBER = 2;
    private static final int ONE_TOO_MANY = 3;
    private static final int SO_ALREADY = 4;
    private static final int NOT_SHOWN = 5;
    private static final int NO_BREAKS = 6;
    private static final int LONG_OR_ANSWERED = 7;
    private static final int NONE_THERE = 8;

    private static final int MOST_LINES = 60;
    private static final int MOST_NOTES = 24;
    private static final int MOST_ANSWERS = 4;
    private static final int MOST_CUTS = 3;
    private static final int MOST_EITHER = 6;
    private static final int MOST_PLACE = 400;
    private static final int ALL_LAYERS = 15;

    /** A PAGE without LINES stands only behind one that CUT a NOTE of its own, and no NOTE is CUT twice. */
    private static final int MOST_PAGES = MOST_LINES + MOST_NOTES;

    private static final int LEFT = 0;
    private static final int RIGHT = 1;
    private static final int EITHER = 2;

    /** Above every COST: 24 NOTES of WEIGHT 20, each at most 400 from its LINE, and two CUTS of 1,000. */
    private static final int BEYOND_COST = 1 << 24;

    private final Book book = new Book();
    private final Breaks breaks = new Breaks(book);
    private int status = OK;

    public EdgeNotes() {
    }

    public int status() {
        return status;
    }

    public boolean page(int height, int gap) {
        if (!within(height, 10, 400) || !within(gap, 0, 20)) {
            return refuse(BAD_NUMBER);
        }
        book.height = height;
        book.gap = gap;
        return accept();
    }

    public int line(int height) {
        if (!isLineHeight(height)) {
            return none(BAD_NUMBER);
        }
        if (book.lineCount >= MOST_LINES) {
            return none(ONE_TOO_MANY);
        }
        accept();
        return give(book.addLine(height));
    }

    public boolean change(int line, int height) {
        if (!book.hasLine(line)) {
            return refuse(NO_SUCH);
        }
        if (!isLineHeight(height)) {
            return refuse(BAD_NUMBER);
        }
        book.lineHeights[line] = height;
        return accept();
    }

    public int note(int line, int height, int weight, int side, int layer) {
        if (!book.hasLine(line)) {
            return none(NO_SUCH);
        }
        boolean numbersCanBe = isNoteHeight(height) && within(weight, 1, 20)
                && within(side, LEFT, EITHER) && within(layer, 0, 3);
        if (!numbersCanBe) {
            return none(BAD_NUMBER);
        }
        if (book.noteCount >= MOST_NOTES) {
            return none(ONE_TOO_MANY);
        }
        accept();
        return give(book.addNote(new Note(line, height, weight, side, layer)));
    }

    public int answer(int note, int height) {
        Note asked = book.find(note);
        if (asked == null) {
            return none(NO_SUCH);
        }
        if (!isNoteHeight(height)) {
            return none(BAD_NUMBER);
        }
        if (asked.answers >= MOST_ANSWERS) {
            return none(ONE_TOO_MANY);
        }
        if (asked.cutCount > 0) {
            return none(LONG_OR_ANSWERED);
        }
        asked.answers++;
        asked.tall += height;
        accept();
        return give(asked.answers);
    }

    public int cut(int note, int at) {
        Note asked = book.find(note);
        if (asked == null) {
            return none(NO_SUCH);
        }
        if (!within(at, 1, asked.height - 1)) {
            return none(BAD_NUMBER);
        }
        if (asked.cutCount >= MOST_CUTS) {
            return none(ONE_TOO_MANY);
        }
        if (asked.hasCut(at)) {
            return none(SO_ALREADY);
        }
        if (asked.answers > 0) {
            return none(LONG_OR_ANSWERED);
        }
        asked.addCut(at);
        accept();
        return give(asked.cutCount);
    }

    public boolean cutting(int cost) {
        if (!within(cost, 0, 1000)) {
            return refuse(BAD_NUMBER);
        }
        book.cutting = cost;
        return accept();
    }

    public boolean bind(int note, int line) {
        Note asked = book.find(note);
        if (asked == null || line != NONE && !book.hasLine(line)) {
            return refuse(NO_SUCH);
        }
        if (line != NONE && line < asked.line) {
            return refuse(BAD_NUMBER);
        }
        asked.bound = line;
        give(line);
        return true;
    }

    public boolean fix(int note, int place) {
        Note asked = book.find(note);
        if (asked == null) {
            return refuse(NO_SUCH);
        }
        if (!within(place, 0, MOST_PLACE)) {
            return refuse(BAD_NUMBER);
        }
        asked.fixed = place;
        return accept();
    }

    public boolean loose(int note) {
        Note asked = book.find(note);
        if (asked == null) {
            return refuse(NO_SUCH);
        }
        if (!asked.isFixed()) {
            return refuse(SO_ALREADY);
        }
        asked.fixed = NONE;
        return accept();
    }

    public boolean move(int note, int line) {
        Note asked = book.find(note);
        if (asked == null || !book.hasLine(line)) {
            return refuse(NO_SUCH);
        }
        if (asked.line == line) {
            return refuse(SO_ALREADY);
        }
        asked.line = line;
        if (asked.bound < line) {
            asked.bound = NONE;
        }
        return accept();
    }

    public boolean show(int layers) {
        if (!within(layers, 0, ALL_LAYERS)) {
            return refuse(BAD_NUMBER);
        }
        book.shown = layers;
        return accept();
    }

    public boolean keep(boolean on) {
        book.keep = on;
        return accept();
    }

    public int told(int note, int what) {
        Note asked = book.find(note);
        if (asked == null) {
            return none(NO_SUCH);
        }
        switch (what) {
            case 0: return give(asked.line);
            case 1: return give(asked.height);
            case 2: return give(asked.weight);
            case 3: return give(asked.side);
            case 4: return give(asked.layer);
            case 5: return give(asked.tall);
            case 6: return give(asked.fixed);
            case 7: return give(book.isShown(asked) ? 1 : 0);
            case 8: return give(asked.cutCount);
            case 9: return give(asked.bound);
            default: return none(BAD_NUMBER);
        }
    }

    public int pages() {
        breaks.refresh();
        return breaks.held ? give(breaks.count) : none(NO_BREAKS);
    }

    public int pageOf(int line) {
        breaks.refresh();
        int fault = faultOfLine(line);
        return fault == OK ? give(breaks.linePage[line]) : none(fault);
    }

    public int top(int line) {
        breaks.refresh();
        int fault = faultOfLine(line);
        return fault == OK ? give(breaks.lineTop[line]) : none(fault);
    }

    public int side(int note) {
        breaks.refresh();
        Note asked = book.find(note);
        int fault = faultOfNote(asked);
        return asked != null && fault == OK ? give(asked.edge) : none(fault);
    }

    public int place(int note) {
        breaks.refresh();
        Note asked = book.find(note);
        int fault = faultOfNote(asked);
        return asked != null && fault == OK ? give(asked.place) : none(fault);
    }

    public int rest(int note) {
        breaks.refresh();
        Note asked = book.find(note);
        int fault = faultOfNote(asked);
        return asked != null && fault == OK ? give(asked.rest) : none(fault);
    }

    public int column(int note, int page) {
        breaks.refresh();
        Note asked = book.find(note);
        int fault = faultOfBracket(asked, page);
        return asked != null && fault == OK ? give(breaks.columnOf(asked, page)) : none(fault);
    }

    public int bracket(int note, int page, boolean end) {
        breaks.refresh();
        Note asked = book.find(note);
        int fault = faultOfBracket(asked, page);
        if (asked == null || fault != OK) {
            return none(fault);
        }
        return give(end ? breaks.bracketEnd(asked, page) : breaks.bracketBegin(asked, page));
    }

    public int cost(int page) {
        breaks.refresh();
        int fault = faultOfPage(page);
        return fault == OK ? give(breaks.costs[page]) : none(fault);
    }

    public int runs(int page, int side) {
        breaks.refresh();
        int fault = within(side, LEFT, RIGHT) ? faultOfPage(page) : BAD_NUMBER;
        return fault == OK ? give(breaks.countRuns(page, side)) : none(fault);
    }

    public int moved(int page) {
        breaks.refresh();
        int fault = faultOfPage(page);
        return fault == OK ? give(breaks.countMoved(page)) : none(fault);
    }

    private int faultOfLine(int line) {
        if (!book.hasLine(line)) {
            return NO_SUCH;
        }
        return breaks.held ? OK : NO_BREAKS;
    }

    private int faultOfNote(Note asked) {
        if (asked == null) {
            return NO_SUCH;
        }
        if (!book.isShown(asked)) {
            return NOT_SHOWN;
        }
        return breaks.held ? OK : NO_BREAKS;
    }

    private int faultOfPage(int page) {
        if (!breaks.held) {
            return NO_BREAKS;
        }
        return breaks.hasPage(page) ? OK : NO_SUCH;
    }

    private int faultOfBracket(Note asked, int page) {
        int fault = faultOfNote(asked);
        if (asked == null || fault != OK) {
            return fault;
        }
        if (!breaks.hasPage(page)) {
            return NO_SUCH;
        }
        return breaks.hasBracket(asked, page) ? OK : NONE_THERE;
    }

    private boolean accept() {
        breaks.stale = true;
        status = OK;
        return true;
    }

    private boolean refuse(int why) {
        status = why;
        return false;
    }

    private int give(int answer) {
        status = OK;
        return answer;
    }

    private int none(int why) {
        status = why;
        return NONE;
    }

    private static boolean within(int number, int least, int most) {
        return number >= least && number <= most;
    }

    private static boolean isLineHeight(int height) {
        return within(height, 1, 50);
    }

    private static boolean isNoteHeight(int height) {
        return within(height, 1, 100);
    }

    /** A NOTE as it is told, and how it stands in the BEST SETTING of its PAGE while there are BREAKS. */
    private static final class Note {
        final int height;
        final int weight;
        final int side;
        final int layer;
        /** The greatest first: so they are tried in the order in which BEST has them. */
        final int[] cuts = new int[MOST_CUTS];
        int cutCount;
        int line;
        int answers;
        int tall;
        int fixed = NONE;
        int bound = NONE;

        int lineTop;
        int edge;
        int place;
        int rest;
        int bracketColumn;

        Note(int line, int height, int weight, int side, int layer) {
            this.line = line;
            this.height = height;
            this.weight = weight;
            this.side = side;
            this.layer = layer;
            this.tall = height;
        }

        boolean isFixed() {
            return fixed != NONE;
        }

        /** Whether it can be CUT there, what a PAGE can hold being CARRIED. */
        boolean leavesAtMost(int pageHeight, int at) {
            return fixed == NONE && height - at <= pageHeight;
        }

        boolean hasCut(int at) {
            for (int i = 0; i < cutCount; i++) {
                if (cuts[i] == at) {
                    return true;
                }
            }
            return false;
        }

        void addCut(int at) {
            if (cutCount >= cuts.length) {
                return;
            }
            int spot = cutCount;
            while (spot > 0 && cuts[spot - 1] < at) {
                cuts[spot] = cuts[spot - 1];
                spot--;
            }
            cuts[spot] = at;
            cutCount++;
        }
    }

    /** All that is told. */
    private static final class Book {
        final int[] lineHeights = new int[MOST_LINES];
        final Note[] notes = new Note[MOST_NOTES];
        int lineCount;
        int noteCount;
        int height = 100;
        int gap = 2;
        int cutting = 50;
        int shown = ALL_LAYERS;
        boolean keep;

        int addLine(int lineHeight) {
            if (lineCount >= lineHeights.length) {
                return NONE;
            }
            lineHeights[lineCount] = lineHeight;
            return lineCount++;
        }

        int addNote(Note more) {
            if (noteCount >= notes.length) {
                return NONE;
            }
            notes[noteCount] = more;
            return noteCount++;
        }

        boolean hasLine(int number) {
            return number >= 0 && number < lineCount;
        }

        Note find(int number) {
            return number >= 0 && number < noteCount ? notes[number] : null;
        }

        boolean isShown(Note asked) {
            return (shown >> asked.layer & 1) != 0;
        }

        boolean isSet(Note asked) {
            return keep || isShown(asked);
        }
    }

    /** The SET NOTES in ORDER. */
    private static final class Order {
        final Note[] notes = new Note[MOST_NOTES];
        int count;

        void gather(Book book) {
            count = 0;
            for (int i = 0; i < book.noteCount; i++) {
                Note next = book.notes[i];
                if (book.isSet(next) && count < notes.length) {
                    insert(next);
                }
            }
        }

        /** NOTES come by number, so one stays behind those of its LINE that came earlier. */
        private void insert(Note next) {
            int spot = count;
            while (spot > 0 && notes[spot - 1].line > next.line) {
                notes[spot] = notes[spot - 1];
                spot--;
            }
            notes[spot] = next;
            count++;
        }
    }

    /**
     * One side of the PAGE that is being set.
     *
     * The SHIFT of a NOTE is what must stand above it: TALLS and GAPS of those ahead. A TOP less its SHIFT is a
     * LEVEL, and the rule that none stands over another says just that LEVELS never fall along the row. So the
     * least COST is a fit of rising LEVELS to wished ones by weighted distance.
     */
    private static final class Edge {
        private final Book book;
        private final int number;
        private final Note[] row = new Note[MOST_NOTES];
        private final int[] shifts = new int[MOST_NOTES];
        private final int[] ceilings = new int[MOST_NOTES];
        /** The least LEVEL at which each NOTE and those ahead of it cost least, whatever comes behind it. */
        private final int[] levels = new int[MOST_NOTES];
        /** Where the COST of the row so far bends, by the LEVEL of its last NOTE, and by how much. */
        private final int[] bends = new int[MOST_NOTES];
        private final int[] forces = new int[MOST_NOTES];
        private int bendCount;
        private int count;
        private int nextShift;
        /** What is CARRIED to this PAGE; once the PAGE is set, what it CARRIES to the next one. */
        int carried;
        /** The CUT that choose() took, or 0. */
        int chosenCut;

        Edge(Book book, int number) {
            this.book = book;
            this.number = number;
        }

        void clear() {
            count = 0;
            nextShift = carried > 0 ? carried + book.gap : 0;
        }

        void add(Note next) {
            if (count >= row.length) {
                return;
            }
            row[count] = next;
            shifts[count] = nextShift;
            nextShift += next.tall + book.gap;
            count++;
        }

        /** Whether the row has a SETTING: each NOTE as high as it can stand, the last one CUT if it must be. */
        boolean fits() {
            if (count == 0) {
                return true;
            }
            int level = 0;
            for (int i = 0; i < count; i++) {
                if (row[i].isFixed()) {
                    int told = row[i].fixed - shifts[i];
                    if (told < level) {
                        return false;
                    }
                    level = told;
                }
            }
            int room = book.height - shifts[count - 1] - level;
            return row[count - 1].tall <= room || fitsCut(row[count - 1], room);
        }

        private boolean fitsCut(Note last, int room) {
            for (int i = 0; i < last.cutCount; i++) {
                if (last.cuts[i] <= room && last.leavesAtMost(book.height, last.cuts[i])) {
                    return true;
                }
            }
            return false;
        }

        /** The least COST of the row, or the limit if that is not below it; remembers the CUT that BEST has. */
        int choose(int limit) {
            chosenCut = 0;
            if (count == 0) {
                return 0;
            }
            Note last = row[count - 1];
            int least = leastCost(last.tall, limit);
            for (int i = 0; i < last.cutCount; i++) {
                int at = last.cuts[i];
                if (least > book.cutting && last.leavesAtMost(book.height, at)) {
                    int cost = book.cutting + leastCost(at, least - book.cutting);
                    if (cost < least) {
                        least = cost;
                        chosenCut = at;
                    }
                }
            }
            return least;
        }

        /** Lets the row stand as BEST has it with that CUT, and CARRIES the rest. */
        void stand(int cutAt) {
            carried = 0;
            if (count == 0) {
                return;
            }
            Note last = row[count - 1];
            leastCost(cutAt > 0 ? cutAt : last.tall, BEYOND_COST);
            int level = levels[count - 1];
            for (int i = count - 1; i >= 0; i--) {
                level = Math.min(level, levels[i]);
                row[i].edge = number;
                row[i].place = level + shifts[i];
                row[i].rest = 0;
            }
            if (cutAt > 0) {
                last.rest = last.height - cutAt;
                carried = last.rest;
            }
        }

        /** The least COST without CUTTING, the last NOTE being that tall; the limit if it is not below that. */
        private int leastCost(int lastTall, int limit) {
            if (!hangCeilings(lastTall)) {
                return limit;
            }
            int cost = 0;
            int floor = 0;
            bendCount = 0;
            for (int i = 0; i < count && cost < limit; i++) {
                Note next = row[i];
                if (next.isFixed()) {
                    floor = ceilings[i];
                    levels[i] = floor;
                } else {
                    int wished = next.lineTop - shifts[i];
                    int near = Math.max(floor, Math.min(ceilings[i], wished));
                    cost += next.weight * Math.abs(wished - near) + pull(near, next.weight);
                    levels[i] = bendCount > 0 ? bends[bendCount - 1] : near;
                }
            }
            return Math.min(cost, limit);
        }

        /** The greatest LEVELS that the end of the PAGE and the FIXED ones leave; false if there are none. */
        private boolean hangCeilings(int lastTall) {
            if (count == 0) {
                return true;
            }
            int ceiling = book.height - lastTall - shifts[count - 1];
            for (int i = count - 1; i >= 0; i--) {
                if (row[i].isFixed()) {
                    int told = row[i].fixed - shifts[i];
                    if (told > ceiling) {
                        return false;
                    }
                    ceiling = told;
                }
                ceilings[i] = ceiling;
            }
            return ceiling >= 0;
        }

        /**
         * One NOTE more at the row's end that wishes that LEVEL: how much the least COST grows.
         *
         * As a NOTE behind may only stand lower, the COST is held as a curve that falls to its least and stays
         * there: the new distance bends it at the wish by twice the weight, and its rise behind the least is cut
         * off by taking one weight from the last bends.
         */
        private int pull(int wished, int weight) {
            if (bendCount >= bends.length) {
                return 0;
            }
            int spot = bendCount;
            while (spot > 0 && bends[spot - 1] > wished) {
                bends[spot] = bends[spot - 1];
                forces[spot] = forces[spot - 1];
                spot--;
            }
            bends[spot] = wished;
            forces[spot] = 2 * weight;
            bendCount++;
            int growth = 0;
            int left = weight;
            for (int i = bendCount - 1; i >= 0 && left > 0; i--) {
                int taken = Math.min(left, forces[i]);
                growth += taken * (bends[i] - wished);
                forces[i] -= taken;
                left -= taken;
                if (forces[i] == 0) {
                    bendCount = i;
                }
            }
            return growth;
        }
    }

    /**
     * Fills one PAGE after the other with NOTES in ORDER and finds the BEST SETTING of each.
     *
     * A dealing tells the side of each NOTE of SIDE EITHER, as a number: a bit for each, the first NOTE's the
     * highest, 1 for right. So dealings come in the order in which BEST has them.
     */
    private static final class PageSetter {
        final Edge left;
        final Edge right;
        /** The PAGE has the NOTES of ORDER from this one on to the one ahead of the end. */
        int firstNote;
        int endNote;
        private final Order order;
        private int eitherCount;
        /** The first dealing that has a SETTING. */
        private int firstDealing;

        PageSetter(Book book, Order order) {
            this.order = order;
            left = new Edge(book, LEFT);
            right = new Edge(book, RIGHT);
        }

        void beginBook() {
            left.carried = 0;
            right.carried = 0;
            endNote = 0;
        }

        /** The next PAGE, with no NOTE yet. */
        void beginPage() {
            firstNote = endNote;
            eitherCount = 0;
            firstDealing = 0;
        }

        boolean carries() {
            return left.carried > 0 || right.carried > 0;
        }

        /** Takes the NOTES of the next LINE too, if the PAGE is HELD with them. */
        boolean takeNotesOf(int line) {
            int oldEnd = endNote;
            int oldEither = eitherCount;
            while (endNote < order.count && order.notes[endNote].line == line) {
                if (order.notes[endNote].side == EITHER) {
                    eitherCount++;
                }
                endNote++;
            }
            if (endNote == oldEnd || findDealing(eitherCount - oldEither)) {
                return true;
            }
            endNote = oldEnd;
            eitherCount = oldEither;
            return false;
        }

        /**
         * What has no SETTING has none with more NOTES, so the search goes on behind the dealings that were
         * refused already.
         */
        private boolean findDealing(int newEither) {
            if (eitherCount > MOST_EITHER) {
                return false;
            }
            for (int dealing = firstDealing << newEither; dealing < dealings(); dealing++) {
                deal(dealing);
                if (left.fits() && right.fits()) {
                    firstDealing = dealing;
                    return true;
                }
            }
            return false;
        }

        private int dealings() {
            return 1 << eitherCount;
        }

        private void deal(int dealing) {
            left.clear();
            right.clear();
            int bit = dealings() >> 1;
            for (int i = firstNote; i < endNote; i++) {
                Note next = order.notes[i];
                boolean toRight = next.side == RIGHT;
                if (next.side == EITHER) {
                    toRight = (dealing & bit) != 0;
                    bit >>= 1;
                }
                if (toRight) {
                    right.add(next);
                } else {
                    left.add(next);
                }
            }
        }

        /** Lets the NOTES stand as in the BEST SETTING, and tells its COST. */
        int setBest() {
            int least = BEYOND_COST;
            int best = firstDealing;
            int leftCut = 0;
            int rightCut = 0;
            for (int dealing = firstDealing; dealing < dealings() && least > 0; dealing++) {
                deal(dealing);
                int onLeft = left.choose(least);
                int onRight = onLeft < least ? right.choose(least - onLeft) : 0;
                if (onLeft + onRight < least) {
                    least = onLeft + onRight;
                    best = dealing;
                    leftCut = left.chosenCut;
                    rightCut = right.chosenCut;
                }
            }
            deal(best);
            left.stand(leftCut);
            right.stand(rightCut);
            return least;
        }
    }

    /** The PAGES by BREAKS, made anew when they are asked for and something was told since. */
    private static final class Breaks {
        final int[] linePage = new int[MOST_LINES];
        final int[] lineTop = new int[MOST_LINES];
        final int[] costs = new int[MOST_PAGES];
        int count;
        /** Whether there are BREAKS. */
        boolean held = true;
        boolean stale = true;
        private final int[] firstLines = new int[MOST_PAGES];
        private final int[] endLines = new int[MOST_PAGES];
        private final int[] firstNotes = new int[MOST_PAGES];
        private final int[] endNotes = new int[MOST_PAGES];
        private final int[][] carried = new int[2][MOST_PAGES];
        private final Book book;
        private final Order order = new Order();
        private final PageSetter setter;

        Breaks(Book book) {
            this.book = book;
            setter = new PageSetter(book, order);
        }

        void refresh() {
            if (!stale) {
                return;
            }
            stale = false;
            held = true;
            count = 0;
            order.gather(book);
            setter.beginBook();
            int line = 0;
            for (int page = 0; page < MOST_PAGES && (line < book.lineCount || setter.carries()); page++) {
                setter.beginPage();
                int end = takeLines(line);
                if (end == line && !setter.carries()) {
                    held = false;
                    return;
                }
                layPage(page, line, end);
                line = end;
            }
        }

        boolean hasPage(int number) {
            return number >= 0 && number < count;
        }

        /** What is not HELD is not HELD with more LINES, so the first LINE that is too many ends the PAGE. */
        private int takeLines(int first) {
            int end = first;
            int used = 0;
            while (end < book.lineCount) {
                used += book.lineHeights[end];
                if (used > book.height || !setter.takeNotesOf(end)) {
                    return end;
                }
                end++;
            }
            return end;
        }

        private void layPage(int page, int first, int end) {
            firstLines[page] = first;
            endLines[page] = end;
            firstNotes[page] = setter.firstNote;
            endNotes[page] = setter.endNote;
            carried[LEFT][page] = setter.left.carried;
            carried[RIGHT][page] = setter.right.carried;
            int used = 0;
            for (int i = first; i < end; i++) {
                linePage[i] = page;
                lineTop[i] = used;
                used += book.lineHeights[i];
            }
            for (int i = firstNotes[page]; i < endNotes[page]; i++) {
                Note next = order.notes[i];
                next.lineTop = lineTop[next.line];
            }
            costs[page] = setter.setBest();
            count = page + 1;
        }

        int countRuns(int page, int edge) {
            if (!hasPage(page) || !within(edge, LEFT, RIGHT)) {
                return NONE;
            }
            int found = 0;
            int nearest = NONE;
            if (carried[edge][page] > 0) {
                found++;
                nearest = carried[edge][page] + book.gap;
            }
            for (int i = firstNotes[page]; i < endNotes[page]; i++) {
                Note next = order.notes[i];
                if (next.edge == edge) {
                    if (next.place != nearest) {
                        found++;
                    }
                    nearest = next.place + next.tall + book.gap;
                }
            }
            return found;
        }

        int countMoved(int page) {
            if (!hasPage(page)) {
                return NONE;
            }
            int found = 0;
            for (int i = firstNotes[page]; i < endNotes[page]; i++) {
                if (order.notes[i].place != order.notes[i].lineTop) {
                    found++;
                }
            }
            return found;
        }

        boolean hasBracket(Note asked, int page) {
            return hasPage(page) && asked.bound != NONE && firstOf(asked, page) <= lastOf(asked, page);
        }

        int bracketBegin(Note asked, int page) {
            return hasBracket(asked, page) ? lineTop[firstOf(asked, page)] : NONE;
        }

        int bracketEnd(Note asked, int page) {
            if (!hasBracket(asked, page)) {
                return NONE;
            }
            int last = lastOf(asked, page);
            return lineTop[last] + book.lineHeights[last];
        }

        private int firstOf(Note asked, int page) {
            return Math.max(asked.line, firstLines[page]);
        }

        private int lastOf(Note asked, int page) {
            return Math.min(asked.bound, endLines[page] - 1);
        }

        int columnOf(Note asked, int page) {
            for (int i = 0; i < order.count; i++) {
                Note next = order.notes[i];
                if (next.edge == asked.edge && hasBracket(next, page)) {
                    next.bracketColumn = leastFree(takenAhead(i, page));
                }
            }
            return asked.bracketColumn;
        }

        /**
         * A bit for each COLUMN of a BRACKET that the one at that spot of ORDER meets. A BRACKET ahead begins no
         * later, and each holds whole LINES, so they meet if the later one's first LINE is in the earlier one.
         */
        private int takenAhead(int spot, int page) {
            Note last = order.notes[spot];
            int taken = 0;
            for (int i = 0; i < spot; i++) {
                Note ahead = order.notes[i];
                boolean beside = ahead.edge == last.edge && hasBracket(ahead, page);
                if (beside && firstOf(last, page) <= lastOf(ahead, page)) {
                    taken |= 1 << ahead.bracketColumn;
                }
            }
            return taken;
        }

        private static int leastFree(int taken) {
            int free = 0;
            while (free < MOST_NOTES && (taken >> free & 1) != 0) {
                free++;
            }
            return free;
        }
    }
}
