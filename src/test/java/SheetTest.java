/** Promises 11 to 14: pages on sheets, turned backs, blank positions and places. */
public final class SheetTest {
    private static final int LEAST = Integer.MIN_VALUE, GREATEST = Integer.MAX_VALUE;
    private static final int[] LAYOUTS = {0, 1, 2, 4};
    private static final String PAGE_RESULT = "Returns the page of the document, or 0 if the position is blank; NO_SUCH "
        + "if there is no such job or sheet; BAD_VALUE if the sheet has no such side or position (a job whose SIDES "
        + "counts as ONE_SIDED has only fronts, unless it is a booklet).";

    public static void main(String[] args) {
        Check check = new Check();
        positions(check);
        sheetCounts(check);
        sides(check);
        booklets(check);
        copies(check);
        fullJob(check);
        pageErrors(check);
        turns(check);
        blanks(check);
        blanksOfAll(check);
        places(check);
        placeErrors(check);
        check.end();
    }

    private static PrintSpooler with(int sides, int layout) {
        PrintSpooler x = new PrintSpooler();
        x.addDocument(400, 0, 1, 0, 1);
        x.addDocument(400, 2, 1, 0, 1);
        x.set(PrintSpooler.SIDES, sides);
        x.set(PrintSpooler.LAYOUT, layout);
        return x;
    }

    private static void positions(Check check) {
        check.says(0, "Let the list of a job have the pages P(0), P(1), ..., P(m - 1).");
        PrintSpooler x = with(PrintSpooler.ONE_SIDED, 1);
        Check.submit(x, 0, "3-1,3");
        int[] list = {3, 2, 1, 3};
        for (int i = 0; i < 4; i++) {
            check.due("sheet " + i, x.page(0, i, 0, 0), list[i]);
        }
        check.says(0, "A position of a side at which no page of the list is printed is blank.");
        x.set(PrintSpooler.LAYOUT, 4);
        Check.submit(x, 0, "-5");
        check.due("sheet 1", Check.side(x, 1, 1, 0), "5 _ _ _");
        Check.submit(x, 0, "-7");
        check.due("sheet 1", Check.side(x, 2, 1, 0), "5 6 7 _");
        check.says(0, "With k pages per side, side s (from 0) has the positions 0 to k - 1, and P(k * s + j) at position "
            + "j.");
        Check.submit(x, 0, "11-19");
        check.due("sheet 0", Check.side(x, 3, 0, 0), "11 12 13 14");
        check.due("sheet 1", Check.side(x, 3, 1, 0), "15 16 17 18");
        check.due("sheet 2", Check.side(x, 3, 2, 0), "19 _ _ _");
        check.due("position 4", x.page(3, 0, 0, 4), -2);
        x.set(PrintSpooler.LAYOUT, 2);
        Check.submit(x, 0, "11-13");
        check.due("sheet 0", Check.side(x, 4, 0, 0), "11 12");
        check.due("sheet 1", Check.side(x, 4, 1, 0), "13 _");
        check.due("position 2", x.page(4, 0, 0, 2), -2);
    }

    private static int sheets(int sides, int layout, String text) {
        PrintSpooler x = with(sides, layout);
        Check.submit(x, 0, text);
        return x.about(0, 8);
    }

    private static void sheetCounts(Check check) {
        check.says(0, "The sides 0, 1, ... are used until all pages of the list are printed.");
        for (int sides = 0; sides <= 2; sides++) {
            for (int layout = 1; layout <= 4; layout *= 2) {
                int perSheet = sides == 0 ? layout : 2 * layout;
                String name = "SIDES " + sides + ", LAYOUT " + layout + ": sheets of ";
                check.due(name + "one page", sheets(sides, layout, "1"), 1);
                check.due(name + "a full sheet", sheets(sides, layout, "-" + perSheet), 1);
                check.due(name + "one page more", sheets(sides, layout, "-" + (perSheet + 1)), 2);
                check.due(name + "two full sheets", sheets(sides, layout, "-" + 2 * perSheet), 2);
                check.due(name + "one page more", sheets(sides, layout, "-" + (2 * perSheet + 1)), 3);
                check.due(name + "400 pages", sheets(sides, layout, "*"), 400 / perSheet);
                check.due(name + "399 pages", sheets(sides, layout, "2-"), (399 + perSheet - 1) / perSheet);
            }
        }
    }

    private static void sides(Check check) {
        check.says(0, "If SIDES is ONE_SIDED, sheet t of a copy has side t on its front.");
        PrintSpooler x = with(PrintSpooler.ONE_SIDED, 2);
        Check.submit(x, 0, "-6");
        check.due("front 0", Check.side(x, 0, 0, 0), "1 2");
        check.due("front 1", Check.side(x, 0, 1, 0), "3 4");
        check.due("front 2", Check.side(x, 0, 2, 0), "5 6");
        check.due("no back", Check.side(x, 0, 0, 1), "");
        check.says(0, "Otherwise it has side 2 * t on its front and side 2 * t + 1 on its back; a back without a page of "
            + "the list is blank.");
        x.set(PrintSpooler.LAYOUT, 4);
        for (int sides = 1; sides <= 2; sides++) {
            x.set(PrintSpooler.SIDES, sides);
            int job = Check.submit(x, 0, "-9");
            check.due("front 0", Check.side(x, job, 0, 0), "1 2 3 4");
            check.due("back 0", Check.side(x, job, 0, 1), "5 6 7 8");
            check.due("front 1", Check.side(x, job, 1, 0), "9 _ _ _");
            check.due("back 1", Check.side(x, job, 1, 1), "_ _ _ _");
            job = Check.submit(x, 0, "-5");
            check.due("back 0", Check.side(x, job, 0, 1), "5 _ _ _");
            job = Check.submit(x, 0, "-4");
            check.due("back 0", Check.side(x, job, 0, 1), "_ _ _ _");
        }
        x.set(PrintSpooler.LAYOUT, 1);
        int job = Check.submit(x, 0, "-3");
        check.due("front 1", Check.side(x, job, 1, 0), "3");
        check.due("back 1", Check.side(x, job, 1, 1), "_");
    }

    private static void booklets(Check check) {
        check.says(0, "A booklet has two positions on each side, and is always printed on both sides.");
        for (int sides = 0; sides <= 2; sides++) {
            PrintSpooler x = with(sides, PrintSpooler.BOOKLET);
            Check.submit(x, 0, "*");
            for (int side = 0; side <= 1; side++) {
                check.due("position 0", x.page(0, 0, side, 0) > 0 ? 1 : 0, 1);
                check.due("position 1", x.page(0, 0, side, 1) > 0 ? 1 : 0, 1);
                check.due("position 2", x.page(0, 0, side, 2), -2);
            }
            check.due("side 2", x.page(0, 0, 2, 0), -2);
        }
        check.says(0, "It has S = (m + 3) / 4 sheets.");
        int[][] pagesAndSheets = {{1, 1}, {3, 1}, {4, 1}, {5, 2}, {8, 2}, {9, 3}, {396, 99}, {397, 100}, {400, 100}};
        for (int[] row : pagesAndSheets) {
            check.due("sheets of " + row[0] + " pages", sheets(0, 0, "-" + row[0]), row[1]);
        }
        check.says(0, "Sheet t has P(4 * S - 1 - 2 * t) at position 0 of its front, P(2 * t) at position 1 of its front, "
            + "P(2 * t + 1) at position 0 of its back, and P(4 * S - 2 - 2 * t) at position 1 of its back.");
        booklet(check, "11-18", "18 11|12 17|16 13|14 15");
        booklet(check, "11-17", "_ 11|12 17|16 13|14 15");
        booklet(check, "11-16", "_ 11|12 _|16 13|14 15");
        booklet(check, "11-15", "_ 11|12 _|_ 13|14 15");
        booklet(check, "11-14", "14 11|12 13");
        booklet(check, "11-13", "_ 11|12 13");
        booklet(check, "11-12", "_ 11|12 _");
        booklet(check, "11", "_ 11|_ _");
        booklet(check, "7,7,3", "_ 7|7 3");
    }

    private static void booklet(Check check, String text, String want) {
        for (int sides = 0; sides <= 2; sides++) {
            PrintSpooler x = with(sides, PrintSpooler.BOOKLET);
            Check.submit(x, 0, text);
            StringBuilder all = new StringBuilder();
            for (int sheet = 0; sheet < x.about(0, 8); sheet++) {
                all.append(sheet == 0 ? "" : "|").append(Check.side(x, 0, sheet, 0));
                all.append('|').append(Check.side(x, 0, sheet, 1));
            }
            check.due("the booklet of '" + text + "'", all.toString(), want);
        }
    }

    private static void copies(Check check) {
        check.says(0, "If a copy has c sheets, the job has COPIES * c sheets.");
        for (int copies = 1; copies <= 10; copies++) {
            for (int layout : LAYOUTS) {
                PrintSpooler x = with(PrintSpooler.LONG_EDGE, layout);
                x.set(PrintSpooler.COPIES, copies);
                Check.submit(x, 0, "-9");
                check.due("sheets", x.about(0, 8), copies * sheets(PrintSpooler.LONG_EDGE, layout, "-9"));
            }
        }
        check.says(0, "With COLLATE, sheet x of the job is sheet x % c of a copy; otherwise it is sheet x / COPIES of a "
            + "copy.");
        PrintSpooler x = with(PrintSpooler.LONG_EDGE, 1);
        x.set(PrintSpooler.COPIES, 3);
        Check.submit(x, 0, "-3");
        x.set(PrintSpooler.COLLATE, 0);
        Check.submit(x, 0, "-3");
        int[] collated = {1, 3, 1, 3, 1, 3};
        int[] piled = {1, 1, 1, 3, 3, 3};
        for (int sheet = 0; sheet < 6; sheet++) {
            check.due("collated, sheet " + sheet, x.page(0, sheet, 0, 0), collated[sheet]);
            check.due("not collated, sheet " + sheet, x.page(1, sheet, 0, 0), piled[sheet]);
            check.due("collated, back " + sheet, x.page(0, sheet, 1, 0), collated[sheet] == 1 ? 2 : 0);
            check.due("not collated, back " + sheet, x.page(1, sheet, 1, 0), piled[sheet] == 1 ? 2 : 0);
        }
    }

    /** The greatest job: 400 pages, each on a sheet of its own, ten times. */
    private static void fullJob(Check check) {
        check.says(11, "Returns the page that is printed at a position.");
        PrintSpooler x = with(PrintSpooler.ONE_SIDED, 1);
        x.set(PrintSpooler.COPIES, 10);
        Check.submit(x, 0, "*");
        x.set(PrintSpooler.COLLATE, 0);
        Check.submit(x, 0, "*");
        check.due("sheets", x.about(0, 8), 4000);
        check.due("page(0,399,0,0)", x.page(0, 399, 0, 0), 400);
        check.due("page(0,400,0,0)", x.page(0, 400, 0, 0), 1);
        check.due("page(0,3999,0,0)", x.page(0, 3999, 0, 0), 400);
        check.due("page(0,4000,0,0)", x.page(0, 4000, 0, 0), -1);
        check.due("page(1,9,0,0)", x.page(1, 9, 0, 0), 1);
        check.due("page(1,10,0,0)", x.page(1, 10, 0, 0), 2);
        check.due("page(1,3989,0,0)", x.page(1, 3989, 0, 0), 399);
        check.due("page(1,3999,0,0)", x.page(1, 3999, 0, 0), 400);
        check.due("page(1,4000,0,0)", x.page(1, 4000, 0, 0), -1);
    }

    private static void pageErrors(Check check) {
        check.says(11, PAGE_RESULT);
        PrintSpooler x = with(PrintSpooler.LONG_EDGE, 2);
        check.due("no job", x.page(0, 0, 0, 0), -1);
        check.due("no job, no side", x.page(0, 0, 5, 5), -1);
        Check.submit(x, 0, "-7");
        check.due("a page", x.page(0, 1, 1, 0), 7);
        check.due("a blank position", x.page(0, 1, 1, 1), 0);
        int[] none = {-1, 2, LEAST, GREATEST};
        for (int one : none) {
            check.due("no sheet " + one, x.page(0, one, 0, 0), -1);
            check.due("no sheet, no side " + one, x.page(0, one, 2, 0), -1);
            check.due("no sheet, no position " + one, x.page(0, one, 0, 2), -1);
            check.due("no side " + one, x.page(0, 0, one, 0), -2);
            check.due("no position " + one, x.page(0, 0, 0, one), -2);
            check.due("no position of the back " + one, x.page(0, 0, 1, one), -2);
        }
        int[] noJobs = {-1, 1, 24, LEAST, GREATEST};
        for (int job : noJobs) {
            check.due("no job " + job, x.page(job, 0, 0, 0), -1);
            check.due("no job, no side " + job, x.page(job, 0, 2, 0), -1);
        }
        check.says(11, "`side`: 0 for the front, 1 for the back");
        check.due("the front", x.page(0, 0, 0, 0), 1);
        check.due("the back", x.page(0, 0, 1, 0), 3);
        check.says(11, "`sheet`: the sheet");
        check.due("sheet 1", x.page(0, 1, 0, 0), 5);
        check.says(11, "`position`: the position");
        check.due("position 1", x.page(0, 1, 0, 1), 6);
        check.says(11, "`job`: the job");
        x.set(PrintSpooler.SIDES, PrintSpooler.ONE_SIDED);
        Check.submit(x, 0, "9");
        check.due("another job", x.page(1, 0, 0, 0), 9);
        check.says(11, PAGE_RESULT);
        check.due("one-sided: no back", x.page(1, 0, 1, 0), -2);
        x.set(PrintSpooler.SIDES, PrintSpooler.SHORT_EDGE);
        Check.submit(x, 1, "9");
        check.due("paper of size 2: no back", x.page(2, 0, 1, 0), -2);
        x.set(PrintSpooler.SIDES, PrintSpooler.ONE_SIDED);
        x.set(PrintSpooler.LAYOUT, PrintSpooler.BOOKLET);
        Check.submit(x, 0, "-4");
        check.due("a booklet has a back", x.page(3, 0, 1, 0), 2);
        check.due("a booklet's third position", x.page(3, 0, 0, 2), -2);
    }

    private static void turns(Check check) {
        check.says(0, "The back of a sheet is turned by 180 degrees if SIDES is SHORT_EDGE and the job is not a booklet, "
            + "or if SIDES is not SHORT_EDGE and the job is a booklet.");
        int[][] due = {{-2, 0, 180}, {180, 180, 0}};
        for (int sides = 0; sides <= 2; sides++) {
            for (int layout : LAYOUTS) {
                PrintSpooler x = with(sides, layout);
                Check.submit(x, 0, "*");
                String name = "SIDES " + sides + ", LAYOUT " + layout;
                check.due(name + ", front", x.turned(0, 0), 0);
                check.due(name + ", back", x.turned(0, 1), due[layout == 0 ? 1 : 0][sides]);
            }
        }
        check.says(12, "Returns by how many degrees a side is turned.");
        PrintSpooler x = with(PrintSpooler.SHORT_EDGE, 1);
        Check.submit(x, 0, "1");
        check.due("a blank back is turned too", x.turned(0, 1), 180);
        check.says(12, "`side`: 0 for the fronts, 1 for the backs");
        check.due("the fronts", x.turned(0, 0), 0);
        check.says(12, "Returns 0 or 180; NO_SUCH if there is no such job; BAD_VALUE if its sheets have no such side.");
        int[] noSides = {-1, 2, 180, LEAST, GREATEST};
        for (int side : noSides) {
            check.due("turned(0," + side + ")", x.turned(0, side), -2);
            check.due("turned(1," + side + ")", x.turned(1, side), -1);
        }
        int[] noJobs = {-1, 1, 24, LEAST, GREATEST};
        for (int job : noJobs) {
            check.due("turned(" + job + ",0)", x.turned(job, 0), -1);
        }
        Check.submit(x, 1, "*");
        check.due("paper of size 2: no backs", x.turned(1, 1), -2);
        check.due("paper of size 2: fronts", x.turned(1, 0), 0);
        x.set(PrintSpooler.SIDES, PrintSpooler.ONE_SIDED);
        Check.submit(x, 0, "*");
        check.due("one-sided: no backs", x.turned(2, 1), -2);
        check.says(12, "`job`: the job");
        check.due("another job", x.turned(0, 1), 180);
    }

    private static int blanksOf(int sides, int layout, int document, String text) {
        PrintSpooler x = with(sides, layout);
        x.set(PrintSpooler.COPIES, 3);
        Check.submit(x, document, text);
        return x.blanks(0);
    }

    private static void blanks(Check check) {
        check.says(13, "Counts the blank positions of all sheets of a job (on all sides that its sheets have).");
        check.due("one page per side", blanksOf(0, 1, 0, "-5"), 0);
        check.due("two-sided, even", blanksOf(1, 1, 0, "-4"), 0);
        check.due("two-sided, odd", blanksOf(1, 1, 0, "-5"), 3);
        check.due("four per side", blanksOf(0, 4, 0, "-5"), 9);
        check.due("four per side, full", blanksOf(0, 4, 0, "-8"), 0);
        check.due("four per side, two-sided", blanksOf(2, 4, 0, "-5"), 9);
        check.due("four per side, two-sided, full", blanksOf(2, 4, 0, "-8"), 0);
        check.due("four per side, two-sided, one page", blanksOf(2, 4, 0, "1"), 21);
        check.due("booklet", blanksOf(0, 0, 0, "-5"), 9);
        check.due("booklet of one page", blanksOf(0, 0, 0, "1"), 9);
        check.due("booklet of 8", blanksOf(0, 0, 0, "-8"), 0);
        check.due("paper of size 2 has no backs", blanksOf(1, 2, 1, "-5"), 3);
        check.says(13, "Returns their number; NO_SUCH if there is no such job.");
        PrintSpooler x = with(1, 4);
        int[] noJobs = {0, -1, 24, LEAST, GREATEST};
        for (int job : noJobs) {
            check.due("blanks(" + job + ")", x.blanks(job), -1);
        }
        check.says(13, "`job`: the job");
        Check.submit(x, 0, "1");
        Check.submit(x, 0, "-6");
        check.due("blanks(0)", x.blanks(0), 7);
        check.due("blanks(1)", x.blanks(1), 2);
        check.due("blanks(2)", x.blanks(2), -1);
    }

    /** What blanks() counts is what page() answers 0 for. */
    private static void blanksOfAll(Check check) {
        check.says(13, "Counts the blank positions of all sheets of a job (on all sides that its sheets have).");
        for (int sides = 0; sides <= 2; sides++) {
            for (int layout : LAYOUTS) {
                for (int pages = 1; pages <= 17; pages++) {
                    PrintSpooler x = with(sides, layout);
                    x.set(PrintSpooler.COPIES, 2);
                    Check.submit(x, 0, "-" + pages);
                    int blanks = 0;
                    int sheets = x.about(0, 8);
                    for (int i = 0; i < 8 * sheets; i++) {
                        blanks += x.page(0, i / 8, i / 4 % 2, i % 4) == 0 ? 1 : 0;
                    }
                    check.due("blanks of " + pages + " pages", x.blanks(0), blanks);
                }
            }
        }
    }

    private static void places(Check check) {
        check.says(14, "Finds a sheet on which an element of the list of a job is printed in the first copy: the first "
            + "sheet of the job on which it stands.");
        for (int layout : LAYOUTS) {
            for (int sides = 0; sides <= 2; sides++) {
                for (int collate = 0; collate <= 1; collate++) {
                    for (int index = 0; index < 11; index++) {
                        PrintSpooler x = with(sides, layout);
                        x.set(PrintSpooler.COPIES, 3);
                        x.set(PrintSpooler.COLLATE, collate);
                        Check.submit(x, 0, "11-21");
                        place(check, x, index);
                    }
                }
            }
        }
        PrintSpooler x = with(PrintSpooler.ONE_SIDED, 1);
        x.set(PrintSpooler.COPIES, 10);
        Check.submit(x, 0, "2,2,2");
        check.due("the second of equal pages", x.where(0, 1, 0), 1);
        Check.submit(x, 0, "*");
        check.due("collated, the last page", x.where(1, 399, 0), 399);
        x.set(PrintSpooler.COLLATE, 0);
        Check.submit(x, 0, "*");
        check.due("not collated, the last page", x.where(2, 399, 0), 3990);
    }

    /** The element stands at its place, and on no sheet before. */
    private static void place(Check check, PrintSpooler x, int index) {
        int sheet = x.where(0, index, 0);
        int page = 11 + index;
        check.due("the page at its place", x.page(0, sheet, x.where(0, index, 1), x.where(0, index, 2)), page);
        for (int before = 0; before < sheet; before++) {
            for (int side = 0; side <= 1; side++) {
                for (int position = 0; position < 4; position++) {
                    boolean found = x.page(0, before, side, position) == page;
                    check.due("an earlier sheet with page " + page, found ? 1 : 0, 0);
                }
            }
        }
    }

    private static void placeErrors(Check check) {
        check.says(14, "Returns that number; NO_SUCH if there is no such job; BAD_VALUE if there is no such index or what "
            + "is not 0 to 2.");
        PrintSpooler x = with(PrintSpooler.LONG_EDGE, 4);
        check.due("no job", x.where(0, 0, 0), -1);
        check.due("no job, no index, no what", x.where(0, -1, 5), -1);
        Check.submit(x, 0, "-15");
        int[] noJobs = {-1, 1, 24, LEAST, GREATEST};
        for (int job : noJobs) {
            check.due("where(" + job + ",0,0)", x.where(job, 0, 0), -1);
            check.due("where(" + job + ",15,0)", x.where(job, 15, 0), -1);
            check.due("where(" + job + ",0,3)", x.where(job, 0, 3), -1);
        }
        int[] noIndices = {-1, 15, 16, 400, LEAST, GREATEST};
        for (int index : noIndices) {
            check.due("where(0," + index + ",0)", x.where(0, index, 0), -2);
        }
        int[] noWhats = {-1, 3, LEAST, GREATEST};
        for (int what : noWhats) {
            check.due("where(0,0," + what + ")", x.where(0, 0, what), -2);
        }
        check.says(14, "`index`: index in the list of pages");
        check.due("the first element", x.where(0, 0, 2), 0);
        check.due("the last element", x.where(0, 14, 2), 2);
        check.says(14, "`what`: 0 for the sheet, 1 for the side, 2 for the position");
        int[] due = {1, 1, 2};
        for (int what = 0; what <= 2; what++) {
            check.due("where(0,14," + what + ")", x.where(0, 14, what), due[what]);
        }
        check.says(14, "`job`: the job");
        Check.submit(x, 0, "-15");
        check.due("another job", x.where(1, 14, 0), 1);
    }
}
