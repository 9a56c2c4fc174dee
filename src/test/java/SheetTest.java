/** Promises 11 to 14: pages on sheets, turned backs, blank positions and places. */
public final class SheetTest {
    public static void main(String[] args) {
        Check check = new Check();
        pages(check);
        booklets(check);
        copies(check);
        pageErrors(check);
        turns(check);
        blanks(check);
        places(check);
        check.end();
    }

    private static PrintSpooler with(int sides, int layout) {
        PrintSpooler x = new PrintSpooler();
        x.addDocument(400, 0, 1, 0, 1);
        x.addDocument(400, 2, 1, 0, 1);
        x.set(PrintSpooler.SIDES, sides);
        x.set(PrintSpooler.LAYOUT, layout);
        return x;
    }

    private static void pages(Check check) {
        check.promise(11);
        PrintSpooler x = with(PrintSpooler.ONE_SIDED, 1);
        Check.submit(x, 0, "3-1");
        check.due("sheets", x.about(0, 8), 3);
        check.due("sheet 0", Check.side(x, 0, 0, 0), "3");
        check.due("sheet 2", Check.side(x, 0, 2, 0), "1");
        x.set(PrintSpooler.LAYOUT, 4);
        Check.submit(x, 0, "-9");
        check.due("sheets", x.about(1, 8), 3);
        check.due("sheet 1", Check.side(x, 1, 1, 0), "5 6 7 8");
        check.due("sheet 2", Check.side(x, 1, 2, 0), "9 _ _ _");
        x.set(PrintSpooler.SIDES, PrintSpooler.LONG_EDGE);
        Check.submit(x, 0, "-9");
        check.due("sheets", x.about(2, 8), 2);
        check.due("front 0", Check.side(x, 2, 0, 0), "1 2 3 4");
        check.due("back 0", Check.side(x, 2, 0, 1), "5 6 7 8");
        check.due("front 1", Check.side(x, 2, 1, 0), "9 _ _ _");
        check.due("back 1", Check.side(x, 2, 1, 1), "_ _ _ _");
        x.set(PrintSpooler.LAYOUT, 2);
        Check.submit(x, 0, "-4");
        check.due("sheets", x.about(3, 8), 1);
        check.due("back", Check.side(x, 3, 0, 1), "3 4");
        Check.submit(x, 1, "-4");
        check.due("sheets of one-sided paper", x.about(4, 8), 2);
        check.due("sheet 1", Check.side(x, 4, 1, 0), "3 4");
        check.due("no back", x.page(4, 0, 1, 0), -2);
    }

    private static void booklets(Check check) {
        check.promise(11);
        for (int sides = 0; sides <= 2; sides++) {
            PrintSpooler x = with(sides, PrintSpooler.BOOKLET);
            Check.submit(x, 0, "11-18");
            check.due("sheets", x.about(0, 8), 2);
            check.due("front 0", Check.side(x, 0, 0, 0), "18 11");
            check.due("back 0", Check.side(x, 0, 0, 1), "12 17");
            check.due("front 1", Check.side(x, 0, 1, 0), "16 13");
            check.due("back 1", Check.side(x, 0, 1, 1), "14 15");
            Check.submit(x, 0, "11-15");
            check.due("sheets", x.about(1, 8), 2);
            check.due("front 0", Check.side(x, 1, 0, 0), "_ 11");
            check.due("back 0", Check.side(x, 1, 0, 1), "12 _");
            check.due("front 1", Check.side(x, 1, 1, 0), "_ 13");
            check.due("back 1", Check.side(x, 1, 1, 1), "14 15");
            Check.submit(x, 0, "7");
            check.due("sheets", x.about(2, 8), 1);
            check.due("front", Check.side(x, 2, 0, 0), "_ 7");
            check.due("back", Check.side(x, 2, 0, 1), "_ _");
        }
    }

    private static void copies(Check check) {
        check.promise(11);
        PrintSpooler x = with(PrintSpooler.LONG_EDGE, 1);
        x.set(PrintSpooler.COPIES, 3);
        Check.submit(x, 0, "-3");
        x.set(PrintSpooler.COLLATE, 0);
        Check.submit(x, 0, "-3");
        int[] collated = {1, 3, 1, 3, 1, 3};
        int[] piled = {1, 1, 1, 3, 3, 3};
        for (int sheet = 0; sheet < 6; sheet++) {
            check.due("collated, sheet " + sheet, x.page(0, sheet, 0, 0), collated[sheet]);
            check.due("not collated, sheet " + sheet, x.page(1, sheet, 0, 0), piled[sheet]);
        }
        check.due("page(0,6,0,0)", x.page(0, 6, 0, 0), -1);
        check.due("page(1,6,0,0)", x.page(1, 6, 0, 0), -1);
    }

    private static void pageErrors(Check check) {
        check.promise(11);
        PrintSpooler x = with(PrintSpooler.LONG_EDGE, 2);
        check.due("no job", x.page(0, 0, 5, 5), -1);
        Check.submit(x, 0, "-4");
        check.due("page(-1,0,0,0)", x.page(-1, 0, 0, 0), -1);
        check.due("page(1,0,0,0)", x.page(1, 0, 0, 0), -1);
        check.due("page(0,-1,2,0)", x.page(0, -1, 2, 0), -1);
        check.due("page(0,1,2,0)", x.page(0, 1, 2, 0), -1);
        check.due("page(0,0,2,0)", x.page(0, 0, 2, 0), -2);
        check.due("page(0,0,-1,0)", x.page(0, 0, -1, 0), -2);
        check.due("page(0,0,0,-1)", x.page(0, 0, 0, -1), -2);
        check.due("page(0,0,0,2)", x.page(0, 0, 0, 2), -2);
        check.due("page(0,greatest,0,0)", x.page(0, Integer.MAX_VALUE, 0, 0), -1);
        x.set(PrintSpooler.LAYOUT, 0);
        Check.submit(x, 0, "-4");
        check.due("a booklet's third position", x.page(1, 0, 0, 2), -2);
    }

    private static void turns(Check check) {
        check.promise(12);
        int[][] due = {{-2, 0, 180}, {180, 180, 0}};
        for (int sides = 0; sides <= 2; sides++) {
            for (int booklet = 0; booklet <= 1; booklet++) {
                PrintSpooler x = with(sides, booklet == 1 ? 0 : 1);
                Check.submit(x, 0, "*");
                String name = "SIDES " + sides + ", booklet " + booklet;
                check.due(name + ", front", x.turned(0, 0), 0);
                check.due(name + ", back", x.turned(0, 1), due[booklet][sides]);
                check.due(name + ", side 2", x.turned(0, 2), -2);
                check.due(name + ", side -1", x.turned(0, -1), -2);
                check.due(name + ", no job", x.turned(1, 2), -1);
            }
        }
        PrintSpooler x = with(PrintSpooler.SHORT_EDGE, 1);
        Check.submit(x, 1, "*");
        check.due("one-sided paper, back", x.turned(0, 1), -2);
    }

    private static int blanksOf(int sides, int layout, int document, String text) {
        PrintSpooler x = with(sides, layout);
        x.set(PrintSpooler.COPIES, 3);
        Check.submit(x, document, text);
        return x.blanks(0);
    }

    private static void blanks(Check check) {
        check.promise(13);
        check.due("one page per side", blanksOf(0, 1, 0, "-5"), 0);
        check.due("two-sided, odd", blanksOf(1, 1, 0, "-5"), 3);
        check.due("four per side", blanksOf(0, 4, 0, "-5"), 9);
        check.due("four per side, two-sided", blanksOf(2, 4, 0, "-5"), 9);
        check.due("four per side, two-sided, one page", blanksOf(2, 4, 0, "1"), 21);
        check.due("booklet", blanksOf(0, 0, 0, "-5"), 9);
        check.due("booklet of 8", blanksOf(0, 0, 0, "-8"), 0);
        check.due("one-sided paper", blanksOf(1, 2, 1, "-5"), 3);
        PrintSpooler x = new PrintSpooler();
        check.due("blanks(0)", x.blanks(0), -1);
        check.due("blanks(-1)", x.blanks(-1), -1);
    }

    private static void places(Check check) {
        check.promise(14);
        int[] layouts = {0, 1, 2, 4};
        for (int layout : layouts) {
            for (int sides = 0; sides <= 2; sides++) {
                for (int collate = 0; collate <= 1; collate++) {
                    PrintSpooler x = with(sides, layout);
                    x.set(PrintSpooler.COPIES, 3);
                    x.set(PrintSpooler.COLLATE, collate);
                    Check.submit(x, 0, "11-21");
                    for (int index = 0; index < 11; index++) {
                        place(check, x, index);
                    }
                }
            }
        }
        PrintSpooler x = with(0, 1);
        check.due("no job", x.where(0, -1, 5), -1);
        Check.submit(x, 0, "-3");
        check.due("where(-1,0,0)", x.where(-1, 0, 0), -1);
        check.due("where(0,3,0)", x.where(0, 3, 0), -2);
        check.due("where(0,-1,0)", x.where(0, -1, 0), -2);
        check.due("where(0,0,3)", x.where(0, 0, 3), -2);
        check.due("where(0,0,-1)", x.where(0, 0, -1), -2);
        Check.submit(x, 0, "2,2,2");
        check.due("the second of equal pages", x.where(1, 1, 0), 1);
    }

    /** The element stands at its place, and on no sheet before. */
    private static void place(Check check, PrintSpooler x, int index) {
        int sheet = x.where(0, index, 0);
        int page = 11 + index;
        check.due("the page at its place", x.page(0, sheet, x.where(0, index, 1), x.where(0, index, 2)), page);
        for (int before = 0; before < sheet; before++) {
            for (int side = 0; side <= 1; side++) {
                for (int position = 0; position < 4; position++) {
                    boolean found = x.page(0, before, side, position) == page;
                    check.due("an earlier sheet with page " + page, found ? 1 : 0, 0);
                }
            }
        }
    }
}
