/**
 * A print spooler: page ranges, imposition on sheets, printers that work tick by tick, and forecasts.
 * The promises are those of the document; this class checks arguments in the order that it names,
 * and leaves the work to the classes inside.
 */
public final class PrintSpooler {
    public static final int NO_SUCH = -1, BAD_VALUE = -2, BAD_TEXT = -3, TOO_MANY = -4, NOT_POSSIBLE = -5, NONE = -6;
    public static final int COPIES = 0, COLLATE = 1, SIDES = 2, LAYOUT = 3, PRIORITY = 4, USER = 5;
    public static final int ONE_SIDED = 0, LONG_EDGE = 1, SHORT_EDGE = 2, BOOKLET = 0;
    public static final int WAITING = 0, PRINTING = 1, HELD = 2, DONE = 3, CANCELED = 4;
    public static final int IDLE = 0, JAMMED = 2;

    private static final int MOST_DOCUMENTS = 10, MOST_JOBS = 24, MOST_PRINTERS = 3;
    private static final int MOST_CHARACTERS = 40, MOST_LISTED = 400, MOST_IN_TRAY = 500, MOST_LOGGED = 100;
    private static final int PAPER_SIZES = 3, ONE_SIDED_SIZE = 2, USERS = 6, SLOTS = 2;
    private static final int MOST_BANDS = 16, BLANK_SIDE = -1, NO_REQUEST = -1, FINE = 0;
    private static final int LONGEST_FORECAST = 3000, LONGEST_ADVANCE = 1000;

    private final Spool spool = new Spool();
    private final Spool trial = new Spool();
    private final Spool[] slots = new Spool[SLOTS];
    private final PageList gathered = new PageList();
    private final ShortestText shortest = new ShortestText();

    public PrintSpooler() {
        for (int i = 0; i < slots.length; i++) {
            slots[i] = new Spool();
        }
    }

    // ---- documents and page ranges

    public int addDocument(int pages, int size, int base, int step, int span) {
        if (!within(pages, 1, 400) || !within(size, 0, PAPER_SIZES - 1) || !within(base, 1, 500)
                || !within(step, 0, 50) || !within(span, 1, 500)) {
            return BAD_VALUE;
        }
        if (spool.documentCount >= MOST_DOCUMENTS) {
            return TOO_MANY;
        }
        return spool.keepDocument(new Document(pages, size, base, step, span));
    }

    public int weight(int document, int page) {
        Document paper = spool.documentAt(document);
        if (paper == null) {
            return NO_SUCH;
        }
        return within(page, 1, paper.pages) ? paper.weightOf(page) : BAD_VALUE;
    }

    public int say(int character) {
        if (!within(character, 33, 126)) {
            return BAD_VALUE;
        }
        return spool.text.append(character) ? spool.text.length : TOO_MANY;
    }

    public int wipe() {
        int length = spool.text.length;
        spool.text.length = 0;
        return length;
    }

    public int fault() {
        return spool.text.firstFault();
    }

    public int listed(int document, int index) {
        Document paper = spool.documentAt(document);
        if (paper == null) {
            return NO_SUCH;
        }
        int problem = gather(paper);
        if (problem != FINE) {
            return problem;
        }
        if (index == -1) {
            return gathered.size;
        }
        return gathered.has(index) ? gathered.pageAt(index) : NONE;
    }

    // ---- settings and jobs

    public int set(int setting, int value) {
        if (!within(setting, COPIES, USER) || !isAllowed(setting, value)) {
            return BAD_VALUE;
        }
        int previous = spool.settingAt(setting);
        spool.changeSetting(setting, value);
        return previous;
    }

    public int submit(int document) {
        Document paper = spool.documentAt(document);
        if (paper == null) {
            return NO_SUCH;
        }
        int problem = gather(paper);
        if (problem != FINE) {
            return problem;
        }
        if (spool.jobCount >= MOST_JOBS) {
            return TOO_MANY;
        }
        boolean bookletOfOneSided = spool.settingAt(LAYOUT) == BOOKLET && paper.size == ONE_SIDED_SIZE;
        if (gathered.size == 0 || bookletOfOneSided) {
            return NOT_POSSIBLE;
        }
        spool.text.length = 0;
        return spool.keepJob(new Plan(paper, document, gathered.copyOfPages(), spool));
    }

    public int about(int job, int what) {
        Job asked = spool.jobAt(job);
        if (asked == null) {
            return NO_SUCH;
        }
        Plan plan = asked.plan;
        switch (what) {
            case COPIES: return plan.copies;
            case COLLATE: return plan.collate;
            case SIDES: return plan.sides;
            case LAYOUT: return plan.layout;
            case PRIORITY: return asked.priority;
            case USER: return plan.user;
            case 6: return plan.document;
            case 7: return plan.pages.length;
            case 8: return plan.sheets();
            case 9: return asked.state;
            case 10: return asked.next;
            case 11: return asked.state == WAITING ? asked.rankAt(spool.time, spool.aging) : NONE;
            default: return BAD_VALUE;
        }
    }

    public int page(int job, int sheet, int side, int position) {
        Job asked = spool.jobAt(job);
        if (asked == null || !asked.plan.hasSheet(sheet)) {
            return NO_SUCH;
        }
        Plan plan = asked.plan;
        if (!plan.hasSide(side) || !within(position, 0, plan.perSide - 1)) {
            return BAD_VALUE;
        }
        return plan.pageOn(plan.sheetOfCopy(sheet), side, position);
    }

    public int turned(int job, int side) {
        Job asked = spool.jobAt(job);
        if (asked == null) {
            return NO_SUCH;
        }
        if (!asked.plan.hasSide(side)) {
            return BAD_VALUE;
        }
        return side == 1 && asked.plan.turnsBacks() ? 180 : 0;
    }

    public int blanks(int job) {
        Job asked = spool.jobAt(job);
        return asked == null ? NO_SUCH : asked.plan.blankPositions();
    }

    public int where(int job, int index, int what) {
        Job asked = spool.jobAt(job);
        if (asked == null) {
            return NO_SUCH;
        }
        if (!within(index, 0, asked.plan.pages.length - 1) || !within(what, 0, 2)) {
            return BAD_VALUE;
        }
        return asked.plan.placeOf(index, what);
    }

    public int canonical(int job, int index) {
        Job asked = spool.jobAt(job);
        if (asked == null) {
            return NO_SUCH;
        }
        shortest.describe(asked.plan.pages);
        if (index == -1) {
            return shortest.size;
        }
        if (index == -2) {
            return shortest.itemCount();
        }
        return shortest.has(index) ? shortest.characterAt(index) : NONE;
    }

    // ---- printers

    public int addPrinter(int speed, int memory, int both) {
        if (!within(speed, 1, 50) || !within(memory, 1, 2000) || !within(both, 0, 1)) {
            return BAD_VALUE;
        }
        return spool.keepPrinter(speed, memory, both == 1);
    }

    public int fill(int printer, int size, int sheets) {
        Printer asked = spool.printerAt(printer);
        if (asked == null) {
            return NO_SUCH;
        }
        if (!within(size, 0, PAPER_SIZES - 1) || !within(sheets, -MOST_IN_TRAY, MOST_IN_TRAY)) {
            return BAD_VALUE;
        }
        int after = asked.sheetsIn(size) + sheets;
        if (!within(after, 0, MOST_IN_TRAY)) {
            return NOT_POSSIBLE;
        }
        asked.changeTray(size, after);
        return after;
    }

    public int printer(int printer, int what) {
        Printer asked = spool.printerAt(printer);
        if (asked == null) {
            return NO_SUCH;
        }
        boolean working = asked.state == PRINTING;
        switch (what) {
            case 0:
            case 1:
            case 2: return asked.sheetsIn(what);
            case 3: return asked.state;
            case 4: return working ? asked.job : NONE;
            case 5: return working ? asked.remaining : NONE;
            case 6: return asked.lost;
            default: return BAD_VALUE;
        }
    }

    public int side(int job, int sheet, int side, int printer, int what) {
        Job asked = spool.jobAt(job);
        Printer device = spool.printerAt(printer);
        if (asked == null || !asked.plan.hasSheet(sheet) || device == null) {
            return NO_SUCH;
        }
        Plan plan = asked.plan;
        if (!plan.hasSide(side) || !within(what, 0, 2)) {
            return BAD_VALUE;
        }
        int load = plan.loadOn(plan.sheetOfCopy(sheet), side);
        if (what == 0) {
            return load == BLANK_SIDE ? 0 : load;
        }
        if (what == 1) {
            return device.bandsFor(load);
        }
        return device.isCoarse(load) ? 1 : 0;
    }

    public int duration(int job, int printer) {
        Job asked = spool.jobAt(job);
        Printer device = spool.printerAt(printer);
        if (asked == null || device == null) {
            return NO_SUCH;
        }
        Plan plan = asked.plan;
        int ticks = 0;
        for (int sheet = 0; sheet < plan.sheetsPerCopy; sheet++) {
            ticks += device.ticksFor(plan.loadOn(sheet, 0)) + device.ticksFor(plan.loadOn(sheet, 1));
        }
        return plan.copies * ticks;
    }

    // ---- operation

    public int setRules(int aging, int margin) {
        if (!within(aging, 1, 1000) || !within(margin, 0, 1000)) {
            return BAD_VALUE;
        }
        int previous = spool.aging;
        spool.aging = aging;
        spool.margin = margin;
        return previous;
    }

    public int setQuota(int user, int quota) {
        if (!within(user, 0, USERS - 1)) {
            return NO_SUCH;
        }
        if (!within(quota, 0, 10000)) {
            return BAD_VALUE;
        }
        int previous = spool.quotaOf(user);
        spool.changeQuota(user, quota);
        return previous;
    }

    public int promote(int job, int priority) {
        Job asked = spool.jobAt(job);
        if (asked == null) {
            return NO_SUCH;
        }
        if (!within(priority, 0, 9)) {
            return BAD_VALUE;
        }
        if (asked.isOver()) {
            return NOT_POSSIBLE;
        }
        int previous = asked.priority;
        asked.priority = priority;
        return previous;
    }

    public int hold(int job) {
        Job asked = spool.jobAt(job);
        if (asked == null) {
            return NO_SUCH;
        }
        if (asked.isOver() || asked.state == HELD) {
            return NOT_POSSIBLE;
        }
        asked.demand(HELD);
        return asked.state;
    }

    public int release(int job) {
        Job asked = spool.jobAt(job);
        if (asked == null) {
            return NO_SUCH;
        }
        if (asked.state == HELD) {
            asked.awaitFrom(spool.time);
            return asked.state;
        }
        if (asked.state == PRINTING && asked.request != NO_REQUEST) {
            asked.request = NO_REQUEST;
            return asked.state;
        }
        return NOT_POSSIBLE;
    }

    public int cancel(int job) {
        Job asked = spool.jobAt(job);
        if (asked == null) {
            return NO_SUCH;
        }
        if (asked.isOver()) {
            return NOT_POSSIBLE;
        }
        asked.demand(CANCELED);
        return asked.state;
    }

    public int jam(int printer) {
        Printer asked = spool.printerAt(printer);
        if (asked == null) {
            return NO_SUCH;
        }
        if (asked.state == JAMMED) {
            return NOT_POSSIBLE;
        }
        boolean loses = asked.state == PRINTING;
        if (loses) {
            spool.loseSheet(asked);
        }
        asked.state = JAMMED;
        return loses ? 1 : 0;
    }

    public int clear(int printer) {
        Printer asked = spool.printerAt(printer);
        if (asked == null) {
            return NO_SUCH;
        }
        if (asked.state != JAMMED) {
            return NOT_POSSIBLE;
        }
        asked.state = IDLE;
        return 1;
    }

    public int advance(int ticks) {
        if (!within(ticks, 1, LONGEST_ADVANCE)) {
            return BAD_VALUE;
        }
        spool.pass(ticks);
        return spool.time;
    }

    public int log(int number, int what) {
        if (!within(what, 0, 3)) {
            return BAD_VALUE;
        }
        return spool.journal.has(number) ? spool.journal.read(number, what) : NONE;
    }

    public int printed(int user) {
        return within(user, 0, USERS - 1) ? spool.printedFor(user) : NO_SUCH;
    }

    // ---- forecasts

    public int finish(int job, int limit) {
        Job asked = spool.jobAt(job);
        if (asked == null) {
            return NO_SUCH;
        }
        if (!within(limit, 1, LONGEST_FORECAST)) {
            return BAD_VALUE;
        }
        trial.copyFrom(spool);
        return trial.ticksUntilDone(job, limit);
    }

    public int urgency(int job, int ticks) {
        Job asked = spool.jobAt(job);
        if (asked == null) {
            return NO_SUCH;
        }
        if (!within(ticks, 1, LONGEST_ADVANCE)) {
            return BAD_VALUE;
        }
        if (asked.isOver()) {
            return NOT_POSSIBLE;
        }
        for (int priority = 0; priority <= 9; priority++) {
            trial.copyFrom(spool);
            Job tried = trial.jobAt(job);
            if (tried == null) {
                return NONE;
            }
            tried.priority = priority;
            if (trial.ticksUntilDone(job, ticks) != NONE) {
                return priority;
            }
        }
        return NONE;
    }

    public int finisher(int index, int limit) {
        if (!within(limit, 1, LONGEST_FORECAST)) {
            return BAD_VALUE;
        }
        if (!within(index, 0, MOST_JOBS - 1)) {
            return NONE;
        }
        trial.copyFrom(spool);
        return trial.jobFinishedAs(trial.doneCount + index, limit);
    }

    // ---- saving

    public int count(int what) {
        switch (what) {
            case 0: return spool.documentCount;
            case 1: return spool.jobCount;
            case 2: return spool.printerCount;
            case 3: return spool.time;
            case 4: return spool.journal.total;
            case 5: return spool.text.length;
            case 6: return spool.waitingJobs();
            default: return BAD_VALUE;
        }
    }

    public int save(int slot) {
        Spool kept = slotAt(slot);
        if (kept == null) {
            return BAD_VALUE;
        }
        kept.copyFrom(spool);
        kept.isSaved = true;
        return spool.time;
    }

    public int restore(int slot) {
        Spool kept = slotAt(slot);
        if (kept == null) {
            return BAD_VALUE;
        }
        if (!kept.isSaved) {
            return NOT_POSSIBLE;
        }
        spool.copyFrom(kept);
        return spool.time;
    }

    // ---- helpers

    private static boolean within(int value, int least, int most) {
        return value >= least && value <= most;
    }

    private static boolean isAllowed(int setting, int value) {
        switch (setting) {
            case COPIES: return within(value, 1, 10);
            case COLLATE: return within(value, 0, 1);
            case SIDES: return within(value, ONE_SIDED, SHORT_EDGE);
            case LAYOUT: return value == BOOKLET || value == 1 || value == 2 || value == 4;
            case PRIORITY: return within(value, 0, 9);
            case USER: return within(value, 0, USERS - 1);
            default: return false;
        }
    }

    private Spool slotAt(int slot) {
        return within(slot, 0, SLOTS - 1) ? slots[slot] : null;
    }

    /** Gathers the pages that the text describes; answers FINE or the error. */
    private int gather(Document paper) {
        if (spool.text.firstFault() != NONE) {
            return BAD_TEXT;
        }
        spool.text.expand(gathered, paper.pages);
        return gathered.overfull ? TOO_MANY : FINE;
    }

    /** A document; it never changes, so copies of the spool share it. */
    private static final class Document {
        final int pages, size, base, step, span;

        Document(int pages, int size, int base, int step, int span) {
            this.pages = pages;
            this.size = size;
            this.base = base;
            this.step = step;
            this.span = span;
        }

        int weightOf(int page) {
            return span < 1 ? base : base + (page * step) % span;
        }
    }

    /** The text of page ranges: its grammar as a machine of states, and what it describes. */
    private static final class RangeText {
        private static final int WRONG = -1, ITEM = 0, AFTER_BANG = 1, STAR = 2, PARITY = 3;
        private static final int LEADING_DASH = 4, DASH = 5;
        // Two states per digit read, so that a third digit is the last one.
        private static final int FROM_1 = 6, FROM_2 = 7, FROM_3 = 8, TO_1 = 9, TO_2 = 10, TO_3 = 11;
        private static final int BEYOND_ALL_PAGES = 999;

        private final int[] characters = new int[MOST_CHARACTERS];
        private int length = 0;
        private int reading = 0;

        boolean append(int character) {
            if (length < 0 || length >= characters.length) {
                return false;
            }
            characters[length] = character;
            length++;
            return true;
        }

        int firstFault() {
            int state = ITEM;
            for (int i = 0; i < length; i++) {
                state = stateAfter(state, characterAt(i));
                if (state == WRONG) {
                    return i;
                }
            }
            boolean tooEarly = state == ITEM || state == AFTER_BANG || state == LEADING_DASH;
            return tooEarly ? length : NONE;
        }

        /** Puts the pages that this text, which must be correct, describes into the list. */
        void expand(PageList list, int lastPage) {
            list.empty();
            reading = 0;
            while (reading < length && !list.overfull) {
                int before = reading;
                expandItem(list, lastPage);
                if (reading <= before) {
                    return;
                }
            }
        }

        private void expandItem(PageList list, int lastPage) {
            boolean removes = skip('!');
            int from = 1;
            int to = BEYOND_ALL_PAGES;
            if (!skip('*')) {
                int first = readNumber();
                boolean dash = skip('-');
                int second = dash ? readNumber() : first;
                from = first == 0 ? 1 : first;
                // "a-" counts upwards to beyond every document, so it is empty if a is beyond this one.
                to = second == 0 ? BEYOND_ALL_PAGES : second;
            }
            int parity = skip('o') ? 1 : skip('e') ? 0 : PageList.ANY_PARITY;
            skip(',');
            if (removes) {
                list.removeSpan(from, to, parity);
            } else {
                list.appendSpan(from, to, parity, lastPage);
            }
        }

        private boolean skip(int character) {
            boolean there = characterAt(reading) == character;
            if (there) {
                reading++;
            }
            return there;
        }

        /** The number at the place of reading, 0 if there is none. */
        private int readNumber() {
            int number = 0;
            for (int digits = 0; digits < 3 && isDigit(characterAt(reading)); digits++) {
                number = 10 * number + characterAt(reading) - '0';
                reading++;
            }
            return number;
        }

        private int characterAt(int index) {
            return index >= 0 && index < length && index < characters.length ? characters[index] : 0;
        }

        private static boolean isDigit(int character) {
            return character >= '0' && character <= '9';
        }

        private static int stateAfter(int state, int character) {
            switch (state) {
                case ITEM:
                    return character == '!' ? AFTER_BANG : spanBegins(character);
                case AFTER_BANG:
                    return spanBegins(character);
                case LEADING_DASH:
                    return isDigit(character) && character != '0' ? TO_1 : WRONG;
                case DASH:
                    return isDigit(character) && character != '0' ? TO_1 : spanEnds(character);
                case FROM_1:
                case FROM_2:
                    return isDigit(character) ? state + 1 : character == '-' ? DASH : spanEnds(character);
                case FROM_3:
                    return character == '-' ? DASH : spanEnds(character);
                case TO_1:
                case TO_2:
                    return isDigit(character) ? state + 1 : spanEnds(character);
                case TO_3:
                case STAR:
                    return spanEnds(character);
                case PARITY:
                    return character == ',' ? ITEM : WRONG;
                default:
                    return WRONG;
            }
        }

        private static int spanBegins(int character) {
            if (character == '*') {
                return STAR;
            }
            if (character == '-') {
                return LEADING_DASH;
            }
            return isDigit(character) && character != '0' ? FROM_1 : WRONG;
        }

        private static int spanEnds(int character) {
            if (character == 'o' || character == 'e') {
                return PARITY;
            }
            return character == ',' ? ITEM : WRONG;
        }

        void copyFrom(RangeText other) {
            length = other.length;
            System.arraycopy(other.characters, 0, characters, 0, characters.length);
        }
    }

    /** A list of pages that is built item by item; overfull once an item would lead beyond its room. */
    private static final class PageList {
        private static final int ANY_PARITY = -1;

        private final int[] pages = new int[MOST_LISTED];
        private int size = 0;
        private boolean overfull = false;

        void empty() {
            size = 0;
            overfull = false;
        }

        boolean has(int index) {
            return index >= 0 && index < size && index < pages.length;
        }

        int pageAt(int index) {
            return has(index) ? pages[index] : 0;
        }

        int[] copyOfPages() {
            int[] copy = new int[Math.max(0, size)];
            for (int i = 0; i < copy.length; i++) {
                copy[i] = pageAt(i);
            }
            return copy;
        }

        void appendSpan(int from, int to, int parity, int lastPage) {
            if (from <= to) {
                for (int page = from; page <= to && page <= lastPage; page++) {
                    appendIf(page, parity);
                }
            } else {
                for (int page = Math.min(from, lastPage); page >= to; page--) {
                    appendIf(page, parity);
                }
            }
        }

        private void appendIf(int page, int parity) {
            if (!matches(page, parity)) {
                return;
            }
            if (size < 0 || size >= pages.length) {
                overfull = true;
                return;
            }
            pages[size] = page;
            size++;
        }

        void removeSpan(int from, int to, int parity) {
            int least = Math.min(from, to);
            int most = Math.max(from, to);
            int kept = 0;
            for (int i = 0; i < size && i < pages.length; i++) {
                int page = pages[i];
                boolean goes = page >= least && page <= most && matches(page, parity);
                if (!goes && kept < pages.length) {
                    pages[kept] = page;
                    kept++;
                }
            }
            size = kept;
        }

        private static boolean matches(int page, int parity) {
            return parity == ANY_PARITY || page % 2 == parity;
        }
    }

    /** How the pages of a job stand on its sheets; it never changes, so copies of the spool share it. */
    private static final class Plan {
        final Document paper;
        final int document;
        final int[] pages;
        final int copies, collate, sides, layout, user;
        final boolean booklet, twoSided;
        final int perSide, sheetsPerCopy;
        private final int[] loads;

        Plan(Document paper, int document, int[] pages, Spool spool) {
            this.paper = paper;
            this.document = document;
            this.pages = pages;
            copies = Math.max(1, spool.settingAt(COPIES));
            collate = spool.settingAt(COLLATE);
            sides = paper.size == ONE_SIDED_SIZE ? ONE_SIDED : spool.settingAt(SIDES);
            layout = spool.settingAt(LAYOUT);
            user = spool.settingAt(USER);
            booklet = layout == BOOKLET;
            twoSided = booklet || sides != ONE_SIDED;
            perSide = booklet ? 2 : Math.max(1, layout);
            int usedSides = (pages.length + perSide - 1) / perSide;
            sheetsPerCopy = booklet ? (pages.length + 3) / 4 : twoSided ? (usedSides + 1) / 2 : usedSides;
            // The loads are asked for again and again while sheets are printed, so they are kept.
            loads = new int[Math.max(0, twoSided ? 2 * sheetsPerCopy : sheetsPerCopy)];
            for (int i = 0; i < loads.length; i++) {
                loads[i] = twoSided ? loadOfPages(i / 2, i % 2) : loadOfPages(i, 0);
            }
        }

        int sheets() {
            return copies * sheetsPerCopy;
        }

        boolean hasSheet(int sheet) {
            return sheet >= 0 && sheet < sheets();
        }

        boolean hasSide(int side) {
            return side == 0 || side == 1 && twoSided;
        }

        int sheetOfCopy(int sheet) {
            if (sheetsPerCopy < 1 || copies < 1) {
                return 0;
            }
            return collate == 1 ? sheet % sheetsPerCopy : sheet / copies;
        }

        /** The page at a position of a sheet of a copy, 0 if it is blank. */
        int pageOn(int sheet, int side, int position) {
            int index = indexOn(sheet, side, position);
            return index >= 0 && index < pages.length ? pages[index] : 0;
        }

        private int indexOn(int sheet, int side, int position) {
            if (!booklet) {
                return (twoSided ? 2 * sheet + side : sheet) * perSide + position;
            }
            // Folded, the early half of the list runs up through the sheets and the late half back down.
            int early = 2 * sheet + side;
            boolean holdsEarly = (position == 1) == (side == 0);
            return holdsEarly ? early : 4 * sheetsPerCopy - 1 - early;
        }

        /** Where an element of the list stands first: 0 for the sheet, 1 for the side, 2 for the position. */
        int placeOf(int index, int what) {
            int sheet;
            int side;
            int position;
            if (booklet) {
                boolean isEarly = index < 2 * sheetsPerCopy;
                int early = isEarly ? index : 4 * sheetsPerCopy - 1 - index;
                sheet = early / 2;
                side = early % 2;
                position = isEarly == (side == 0) ? 1 : 0;
            } else {
                int sideNumber = perSide < 1 ? 0 : index / perSide;
                sheet = twoSided ? sideNumber / 2 : sideNumber;
                side = twoSided ? sideNumber % 2 : 0;
                position = perSide < 1 ? 0 : index % perSide;
            }
            int sheetOfJob = collate == 1 ? sheet : sheet * copies;
            return what == 0 ? sheetOfJob : what == 1 ? side : position;
        }

        boolean turnsBacks() {
            return (sides == SHORT_EDGE) != booklet;
        }

        int blankPositions() {
            int perCopy = sheetsPerCopy * (twoSided ? 2 : 1) * perSide - pages.length;
            return copies * perCopy;
        }

        /** The load of a side of a sheet of a copy, or BLANK_SIDE, also if there is no such side. */
        int loadOn(int sheet, int side) {
            if (!hasSide(side)) {
                return BLANK_SIDE;
            }
            int index = twoSided ? 2 * sheet + side : sheet;
            return index >= 0 && index < loads.length ? loads[index] : BLANK_SIDE;
        }

        private int loadOfPages(int sheet, int side) {
            int load = 0;
            boolean blank = true;
            for (int position = 0; position < perSide; position++) {
                int page = pageOn(sheet, side, position);
                if (page != 0 && perSide > 0) {
                    blank = false;
                    load += paper.weightOf(page) / perSide;
                }
            }
            return blank ? BLANK_SIDE : load;
        }
    }

    /** The shortest text for a list of pages, found from the end of the list to its beginning. */
    private static final class ShortestText {
        // For every index: the text from there on, its length, its items, and the pages of its first item.
        private final int[] lengths = new int[MOST_LISTED + 1];
        private final int[] items = new int[MOST_LISTED + 1];
        private final int[] takes = new int[MOST_LISTED + 1];
        private final int[] characters = new int[4 * MOST_LISTED];
        private int size = 0;

        void describe(int[] pages) {
            int count = Math.min(pages.length, MOST_LISTED);
            lengths[count] = 0;
            items[count] = 0;
            takes[count] = 0;
            int run = 0;
            int nextStep = 0;
            for (int i = count - 1; i >= 0; i--) {
                int step = i + 1 < count ? pages[i + 1] - pages[i] : 0;
                boolean canRun = step == 1 || step == -1 || step == 2 || step == -2;
                run = !canRun ? 1 : step == nextStep ? run + 1 : 2;
                nextStep = step;
                chooseFirstItem(pages, i, run, count);
            }
            write(pages, count);
        }

        int itemCount() {
            return items[0];
        }

        boolean has(int index) {
            return index >= 0 && index < size && index < characters.length;
        }

        int characterAt(int index) {
            return has(index) ? characters[index] : 0;
        }

        /**
         * A run that stops two or more pages early is followed by an item of the same run or by a single page
         * of it, and joined with that it is shorter; so one page, the whole run and all but its last page are
         * the only ones to compare. They come in ascending order, so that of equal ones the longest stays.
         */
        private void chooseFirstItem(int[] pages, int from, int run, int count) {
            compare(pages, from, 1, count);
            if (run > 2) {
                compare(pages, from, run - 1, count);
            }
            if (run > 1) {
                compare(pages, from, run, count);
            }
        }

        private void compare(int[] pages, int from, int take, int count) {
            int rest = from + take;
            if (from < 0 || take < 1 || rest > count || rest >= lengths.length || count > pages.length) {
                return;
            }
            int comma = rest < count ? 1 : 0;
            int length = itemLength(pages[from], pages[rest - 1], take) + comma + lengths[rest];
            int number = 1 + items[rest];
            boolean better = length < lengths[from] || length == lengths[from] && number <= items[from];
            if (take == 1 || better) {
                lengths[from] = length;
                items[from] = number;
                takes[from] = take;
            }
        }

        private static int itemLength(int first, int last, int take) {
            if (take == 1) {
                return digits(first);
            }
            return digits(first) + 1 + digits(last) + (isSpaced(first, last, take) ? 1 : 0);
        }

        /** Whether the pages of an item are every second one, so that it needs "o" or "e". */
        private static boolean isSpaced(int first, int last, int take) {
            return Math.abs(last - first) != take - 1;
        }

        private static int digits(int number) {
            return number >= 100 ? 3 : number >= 10 ? 2 : 1;
        }

        private void write(int[] pages, int count) {
            size = 0;
            int from = 0;
            while (from < count && from < pages.length && from < takes.length) {
                int take = Math.max(1, takes[from]);
                int last = from + take - 1;
                if (last >= pages.length) {
                    return;
                }
                if (from > 0) {
                    put(',');
                }
                writeItem(pages[from], pages[last], take);
                from += take;
            }
        }

        private void writeItem(int first, int last, int take) {
            putNumber(first);
            if (take == 1) {
                return;
            }
            put('-');
            putNumber(last);
            if (isSpaced(first, last, take)) {
                put(first % 2 == 1 ? 'o' : 'e');
            }
        }

        private void putNumber(int number) {
            if (number >= 100) {
                put('0' + number / 100 % 10);
            }
            if (number >= 10) {
                put('0' + number / 10 % 10);
            }
            put('0' + number % 10);
        }

        private void put(int character) {
            if (size >= 0 && size < characters.length) {
                characters[size] = character;
                size++;
            }
        }
    }

    /** A job: its plan, and what changes of it. */
    private static final class Job {
        final int number;
        private Plan plan;
        private int priority = 0;
        private int state = WAITING;
        private int next = 0;
        private int since = 0;
        // None, or the state that it asks for.
        private int request = NO_REQUEST;

        Job(int number, Plan plan) {
            this.number = number;
            this.plan = plan;
        }

        void beginLife(Plan newPlan, int newPriority, int time) {
            plan = newPlan;
            priority = newPriority;
            next = 0;
            request = NO_REQUEST;
            awaitFrom(time);
        }

        void awaitFrom(int time) {
            state = WAITING;
            since = time;
        }

        boolean isOver() {
            return state == DONE || state == CANCELED;
        }

        int rankAt(int time, int aging) {
            int waited = aging < 1 ? 0 : (time - since) / aging;
            return 10 * priority + waited;
        }

        /** Takes the state at once, or asks for it while a sheet is being printed. */
        void demand(int wanted) {
            if (state == PRINTING) {
                request = wanted;
            } else {
                state = wanted;
            }
        }

        /** Stops printing: does what is asked for, or waits. */
        void stopPrinting(int time) {
            if (request == NO_REQUEST) {
                awaitFrom(time);
            } else {
                state = request;
            }
            request = NO_REQUEST;
        }

        void copyFrom(Job other) {
            plan = other.plan;
            priority = other.priority;
            state = other.state;
            next = other.next;
            since = other.since;
            request = other.request;
        }
    }

    /** A printer with its trays, and how long it takes for a side. */
    private static final class Printer {
        private int speed = 1;
        private int memory = 1;
        private boolean both = false;
        private final int[] trays = new int[PAPER_SIZES];
        private int state = IDLE;
        private int job = NONE;
        private int remaining = 0;
        private int lost = 0;

        void beginLife(int newSpeed, int newMemory, boolean newBoth) {
            speed = newSpeed;
            memory = newMemory;
            both = newBoth;
            for (int i = 0; i < trays.length; i++) {
                trays[i] = 0;
            }
            state = IDLE;
            job = NONE;
            remaining = 0;
            lost = 0;
        }

        int sheetsIn(int size) {
            return size >= 0 && size < trays.length ? trays[size] : 0;
        }

        void changeTray(int size, int sheets) {
            if (size >= 0 && size < trays.length) {
                trays[size] = sheets;
            }
        }

        /** What a band takes grows less with more bands, so only the greatest number of bands decides. */
        boolean isCoarse(int load) {
            return load != BLANK_SIDE && 2 * ((load + MOST_BANDS - 1) / MOST_BANDS) > memory;
        }

        int bandsFor(int load) {
            if (load == BLANK_SIDE) {
                return 0;
            }
            int rendered = isCoarse(load) ? load / 4 : load;
            int bands = 1;
            while (bands < MOST_BANDS && 2 * ((rendered + bands - 1) / bands) > memory) {
                bands *= 2;
            }
            return bands;
        }

        int ticksFor(int load) {
            return load == BLANK_SIDE ? 0 : speed + bandsFor(load);
        }

        void copyFrom(Printer other) {
            speed = other.speed;
            memory = other.memory;
            both = other.both;
            System.arraycopy(other.trays, 0, trays, 0, trays.length);
            state = other.state;
            job = other.job;
            remaining = other.remaining;
            lost = other.lost;
        }
    }

    /** The log: how many sheets were printed, and the latest of them. */
    private static final class Journal {
        private static final int COLUMNS = 4;

        private final int[] rows = new int[COLUMNS * MOST_LOGGED];
        private int total = 0;

        void write(int time, int printer, int job, int sheet) {
            put(total, 0, time);
            put(total, 1, printer);
            put(total, 2, job);
            put(total, 3, sheet);
            total++;
        }

        boolean has(int number) {
            return number >= 0 && number < total && number >= total - MOST_LOGGED;
        }

        int read(int number, int column) {
            int cell = cellOf(number, column);
            return cell >= 0 && cell < rows.length ? rows[cell] : 0;
        }

        private void put(int number, int column, int value) {
            int cell = cellOf(number, column);
            if (cell >= 0 && cell < rows.length) {
                rows[cell] = value;
            }
        }

        private static int cellOf(int number, int column) {
            return number % MOST_LOGGED * COLUMNS + column;
        }

        void copyFrom(Journal other) {
            total = other.total;
            System.arraycopy(other.rows, 0, rows, 0, rows.length);
        }
    }

    /** All that is saved and restored, and how it goes on in time. */
    private static final class Spool {
        private final Document[] documents = new Document[MOST_DOCUMENTS];
        private int documentCount = 0;
        // Jobs beyond the count are spare ones, made for an earlier state and used again.
        private final Job[] jobs = new Job[MOST_JOBS];
        private int jobCount = 0;
        private final Printer[] printers = new Printer[MOST_PRINTERS];
        private int printerCount = 0;
        private final RangeText text = new RangeText();
        private final int[] settings = {1, 1, ONE_SIDED, 1, 5, 0};
        private final int[] quotas = new int[USERS];
        private final int[] printedBy = new int[USERS];
        private final Journal journal = new Journal();
        private final int[] doneOrder = new int[MOST_JOBS];
        private int doneCount = 0;
        private int aging = 20;
        private int margin = 1000;
        private int time = 0;
        // Of a slot alone: whether anything was saved in it. It is never copied.
        private boolean isSaved = false;

        Spool() {
            for (int i = 0; i < printers.length; i++) {
                printers[i] = new Printer();
            }
            for (int i = 0; i < quotas.length; i++) {
                quotas[i] = 10000;
            }
        }

        Document documentAt(int number) {
            boolean there = number >= 0 && number < documentCount && number < documents.length;
            return there ? documents[number] : null;
        }

        Job jobAt(int number) {
            return number >= 0 && number < jobCount && number < jobs.length ? jobs[number] : null;
        }

        Printer printerAt(int number) {
            boolean there = number >= 0 && number < printerCount && number < printers.length;
            return there ? printers[number] : null;
        }

        int keepDocument(Document document) {
            if (documentCount < 0 || documentCount >= documents.length) {
                return TOO_MANY;
            }
            documents[documentCount] = document;
            documentCount++;
            return documentCount - 1;
        }

        int keepJob(Plan plan) {
            if (jobCount < 0 || jobCount >= jobs.length) {
                return TOO_MANY;
            }
            Job job = jobs[jobCount];
            if (job == null) {
                job = new Job(jobCount, plan);
                jobs[jobCount] = job;
            }
            job.beginLife(plan, settingAt(PRIORITY), time);
            jobCount++;
            return jobCount - 1;
        }

        int keepPrinter(int speed, int memory, boolean both) {
            if (printerCount < 0 || printerCount >= printers.length) {
                return TOO_MANY;
            }
            Printer printer = printers[printerCount];
            if (printer == null) {
                return TOO_MANY;
            }
            printer.beginLife(speed, memory, both);
            printerCount++;
            return printerCount - 1;
        }

        int settingAt(int setting) {
            return setting >= 0 && setting < settings.length ? settings[setting] : 0;
        }

        void changeSetting(int setting, int value) {
            if (setting >= 0 && setting < settings.length) {
                settings[setting] = value;
            }
        }

        int quotaOf(int user) {
            return user >= 0 && user < quotas.length ? quotas[user] : 0;
        }

        void changeQuota(int user, int quota) {
            if (user >= 0 && user < quotas.length) {
                quotas[user] = quota;
            }
        }

        int printedFor(int user) {
            return user >= 0 && user < printedBy.length ? printedBy[user] : 0;
        }

        int waitingJobs() {
            int waiting = 0;
            for (int j = 0; j < jobCount; j++) {
                Job job = jobAt(j);
                if (job != null && job.state == WAITING) {
                    waiting++;
                }
            }
            return waiting;
        }

        void loseSheet(Printer printer) {
            Job job = jobAt(printer.job);
            if (job != null) {
                job.stopPrinting(time);
            }
            printer.job = NONE;
            printer.lost++;
        }

        void pass(int ticks) {
            int left = ticks;
            while (left > 0) {
                passTick();
                left--;
                left -= skipQuietTicks(left);
            }
        }

        /** Lets time pass until a job is DONE; answers the ticks that took, NONE if limit is not enough. */
        int ticksUntilDone(int number, int limit) {
            Job job = jobAt(number);
            if (job == null) {
                return NONE;
            }
            if (job.state == DONE) {
                return 0;
            }
            int passed = 0;
            while (passed < limit) {
                passTick();
                passed++;
                if (job.state == DONE) {
                    return passed;
                }
                passed += skipQuietTicks(limit - passed);
            }
            return NONE;
        }

        /** Lets time pass until so many jobs and one more were DONE; answers the last of them, or NONE. */
        int jobFinishedAs(int number, int limit) {
            if (number < 0 || number >= doneOrder.length) {
                return NONE;
            }
            int passed = 0;
            while (passed < limit && doneCount <= number) {
                passTick();
                passed++;
                passed += skipQuietTicks(limit - passed);
            }
            return doneCount > number ? doneOrder[number] : NONE;
        }

        private void passTick() {
            time++;
            for (int p = 0; p < printerCount; p++) {
                Printer printer = printerAt(p);
                if (printer != null && printer.state == PRINTING) {
                    printer.remaining--;
                    if (printer.remaining <= 0) {
                        endSheet(p, printer);
                    }
                }
            }
            for (int p = 0; p < printerCount; p++) {
                Printer printer = printerAt(p);
                if (printer != null && printer.state == IDLE) {
                    Job job = bestFor(printer);
                    if (job != null) {
                        beginSheet(printer, job);
                    }
                }
            }
        }

        /**
         * After a tick no job is printable on an idle printer, and only the end of a sheet can change that;
         * so the ticks before the next end of a sheet do nothing but count. Answers how many were skipped.
         */
        private int skipQuietTicks(int most) {
            int quiet = most;
            for (int p = 0; p < printerCount; p++) {
                Printer printer = printerAt(p);
                if (printer != null && printer.state == PRINTING) {
                    quiet = Math.min(quiet, printer.remaining - 1);
                }
            }
            if (quiet <= 0) {
                return 0;
            }
            time += quiet;
            for (int p = 0; p < printerCount; p++) {
                Printer printer = printerAt(p);
                if (printer != null && printer.state == PRINTING) {
                    printer.remaining -= quiet;
                }
            }
            return quiet;
        }

        private void endSheet(int number, Printer printer) {
            Job job = jobAt(printer.job);
            if (job == null) {
                printer.state = IDLE;
                return;
            }
            journal.write(time, number, job.number, job.next);
            countFor(job.plan.user);
            job.next++;
            if (job.next >= job.plan.sheets()) {
                markDone(job);
            } else if (job.request != NO_REQUEST || !hasSupply(printer, job.plan)
                    || isOutranked(job, bestFor(printer))) {
                job.stopPrinting(time);
            } else {
                beginSheet(printer, job);
                return;
            }
            printer.state = IDLE;
            printer.job = NONE;
        }

        private void countFor(int user) {
            if (user >= 0 && user < printedBy.length) {
                printedBy[user]++;
            }
        }

        private void markDone(Job job) {
            job.state = DONE;
            job.request = NO_REQUEST;
            if (doneCount >= 0 && doneCount < doneOrder.length) {
                doneOrder[doneCount] = job.number;
                doneCount++;
            }
        }

        private boolean isOutranked(Job job, Job rival) {
            return rival != null && rival.rankAt(time, aging) > 10 * job.priority + margin;
        }

        private void beginSheet(Printer printer, Job job) {
            Plan plan = job.plan;
            int size = plan.paper.size;
            int sheet = plan.sheetOfCopy(job.next);
            printer.changeTray(size, printer.sheetsIn(size) - 1);
            printer.remaining = printer.ticksFor(plan.loadOn(sheet, 0)) + printer.ticksFor(plan.loadOn(sheet, 1));
            printer.state = PRINTING;
            printer.job = job.number;
            job.state = PRINTING;
        }

        /** The printable job with the greatest rank, of several the one with the lowest number. */
        private Job bestFor(Printer printer) {
            Job best = null;
            int bestRank = 0;
            for (int j = 0; j < jobCount; j++) {
                Job job = jobAt(j);
                if (job != null && isPrintable(printer, job)) {
                    int rank = job.rankAt(time, aging);
                    if (best == null || rank > bestRank) {
                        best = job;
                        bestRank = rank;
                    }
                }
            }
            return best;
        }

        private boolean isPrintable(Printer printer, Job job) {
            return job.state == WAITING && (printer.both || !job.plan.twoSided) && hasSupply(printer, job.plan);
        }

        /** Whether there is paper for a plan, and something left of the quota of its user. */
        private boolean hasSupply(Printer printer, Plan plan) {
            return printer.sheetsIn(plan.paper.size) > 0 && printedFor(plan.user) < quotaOf(plan.user);
        }

        void copyFrom(Spool other) {
            documentCount = other.documentCount;
            for (int d = 0; d < documents.length; d++) {
                documents[d] = other.documentAt(d);
            }
            copyJobs(other);
            copyPrinters(other);
            text.copyFrom(other.text);
            System.arraycopy(other.settings, 0, settings, 0, settings.length);
            System.arraycopy(other.quotas, 0, quotas, 0, quotas.length);
            System.arraycopy(other.printedBy, 0, printedBy, 0, printedBy.length);
            journal.copyFrom(other.journal);
            System.arraycopy(other.doneOrder, 0, doneOrder, 0, doneOrder.length);
            doneCount = other.doneCount;
            aging = other.aging;
            margin = other.margin;
            time = other.time;
        }

        private void copyJobs(Spool other) {
            jobCount = other.jobCount;
            for (int j = 0; j < jobCount && j < jobs.length; j++) {
                Job from = other.jobAt(j);
                if (from != null) {
                    if (jobs[j] == null) {
                        jobs[j] = new Job(j, from.plan);
                    }
                    jobs[j].copyFrom(from);
                }
            }
        }

        private void copyPrinters(Spool other) {
            printerCount = other.printerCount;
            for (int p = 0; p < printerCount; p++) {
                Printer from = other.printerAt(p);
                Printer to = printerAt(p);
                if (from != null && to != null) {
                    to.copyFrom(from);
                }
            }
        }
    }
}
