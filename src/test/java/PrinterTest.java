/** Promises 16 to 20: printers, trays, sides on a printer and durations. */
public final class PrinterTest {
    private static final int LEAST = Integer.MIN_VALUE, GREATEST = Integer.MAX_VALUE;
    private static final String BANDS = "The bands of a side on a printer are the smallest number b of 1, 2, 4, 8 and 16 "
        + "for which 2 * ((load + b - 1) / b) is at most the memory.";
    private static final String COARSE = "If there is no such number, the side is coarse: the bands are determined with "
        + "load / 4 instead of the load, and are 16 if there is no such number then, too.";
    private static final String BLANK = "A side on which all positions are blank has the load 0 and no bands (0).";

    public static void main(String[] args) {
        Check check = new Check();
        ranges(check);
        adding(check);
        newPrinter(check);
        filling(check);
        fillErrors(check);
        properties(check);
        propertyErrors(check);
        loads(check);
        bands(check);
        allBands(check);
        blankSides(check);
        sides(check);
        sideErrors(check);
        ticks(check);
        durations(check);
        durationErrors(check);
        check.end();
    }

    private static void range(Check check, int argument, int[] accepted, int[] refused) {
        for (int value : accepted) {
            check.due("value " + value, add(new PrintSpooler(), argument, value), 0);
        }
        PrintSpooler x = new PrintSpooler();
        for (int value : refused) {
            check.due("value " + value, add(x, argument, value), -2);
        }
        check.due("no printer came of it", x.count(2), 0);
    }

    private static int add(PrintSpooler x, int argument, int value) {
        int[] a = {1, 1, 1};
        a[argument] = value;
        return x.addPrinter(a[0], a[1], a[2]);
    }

    private static void ranges(Check check) {
        check.says(16, "`speed`: 1 to 50");
        range(check, 0, new int[] {1, 50}, new int[] {0, -1, 51, LEAST, GREATEST});
        check.says(16, "`memory`: 1 to 2000");
        range(check, 1, new int[] {1, 2000}, new int[] {0, -1, 2001, LEAST, GREATEST});
        check.says(16, "`both`: 1 if it can print on both sides, 0 if not");
        range(check, 2, new int[] {0, 1}, new int[] {-1, 2, LEAST, GREATEST});
        for (int both = 0; both <= 1; both++) {
            PrintSpooler x = Make.document(2, 0);
            x.addPrinter(1, 20, both);
            x.fill(0, 0, 9);
            x.set(PrintSpooler.SIDES, PrintSpooler.LONG_EDGE);
            Check.submit(x, 0, "*");
            x.advance(1);
            check.due("a job for both sides", x.about(0, 9), both);
        }
    }

    private static void adding(Check check) {
        check.says(16, "Adds a printer.");
        PrintSpooler x = new PrintSpooler();
        check.due("addPrinter", x.addPrinter(1, 1, 0), 0);
        check.due("count(2)", x.count(2), 1);
        check.says(16, "Returns its number; BAD_VALUE if an argument is out of range; TOO_MANY if there are 3 printers.");
        check.due("addPrinter", x.addPrinter(50, 2000, 1), 1);
        check.due("a bad third", x.addPrinter(51, 2000, 1), -2);
        check.says(0, "Up to 3 printers can be added.");
        check.due("the third", x.addPrinter(50, 2000, 1), 2);
        check.due("the fourth", x.addPrinter(50, 2000, 1), -4);
        check.due("the fourth again", x.addPrinter(1, 1, 0), -4);
        check.says(16, "Returns its number; BAD_VALUE if an argument is out of range; TOO_MANY if there are 3 printers.");
        for (int argument = 0; argument < 3; argument++) {
            check.due("a bad fourth", add(x, argument, 2001), -2);
            check.due("a bad fourth", add(x, argument, -1), -2);
        }
        check.due("count(2)", x.count(2), 3);
    }

    private static void newPrinter(Check check) {
        check.says(0, "A printer has a speed, a memory, and can print on both sides of a sheet or not.");
        PrintSpooler x = Make.document(1, 0);
        x.addPrinter(50, 26, 0);
        x.addPrinter(3, 25, 1);
        Check.submit(x, 0, "*");
        check.due("50 and a band", x.duration(0, 0), 51);
        check.due("3 and two bands", x.duration(0, 1), 5);
        check.says(0, "It has a tray for each paper size; trays are empty initially.");
        for (int size = 0; size <= 2; size++) {
            check.due("tray " + size, x.printer(0, size), 0);
            check.due("tray " + size, x.printer(1, size), 0);
        }
        for (int size = 0; size <= 2; size++) {
            x.fill(1, size, 10 + size);
        }
        for (int size = 0; size <= 2; size++) {
            check.due("tray " + size, x.printer(1, size), 10 + size);
            check.due("tray " + size + " of the other", x.printer(0, size), 0);
        }
        check.says(0, "A printer is IDLE (initially), PRINTING or JAMMED.");
        check.due("IDLE", x.printer(1, 3), PrintSpooler.IDLE);
        x.advance(1);
        check.due("PRINTING", x.printer(1, 3), PrintSpooler.PRINTING);
        x.jam(1);
        check.due("JAMMED", x.printer(1, 3), PrintSpooler.JAMMED);
        check.due("the other", x.printer(0, 3), PrintSpooler.IDLE);
    }

    private static void filling(Check check) {
        check.says(17, "Puts sheets into a tray, or takes sheets out.");
        PrintSpooler x = new PrintSpooler();
        x.addPrinter(1, 1, 0);
        x.addPrinter(1, 1, 0);
        check.due("fill(0,1,30)", x.fill(0, 1, 30), 30);
        check.due("fill(0,1,-10)", x.fill(0, 1, -10), 20);
        check.due("fill(0,1,5)", x.fill(0, 1, 5), 25);
        check.due("tray 1", x.printer(0, 1), 25);
        check.due("tray 0", x.printer(0, 0), 0);
        check.due("tray 1 of the other", x.printer(1, 1), 0);
        check.says(17, "`sheets`: number of sheets that are put in, or, if it is negative, taken out; -500 to 500");
        check.due("fill(1,0,500)", x.fill(1, 0, 500), 500);
        check.due("fill(1,0,-500)", x.fill(1, 0, -500), 0);
        check.due("fill(1,0,0)", x.fill(1, 0, 0), 0);
        int[] refused = {501, -501, LEAST, LEAST + 1, GREATEST};
        for (int sheets : refused) {
            check.due("fill(0,1," + sheets + ")", x.fill(0, 1, sheets), -2);
        }
        check.says(17, "`size`: paper size of the tray");
        int[] noSizes = {-1, 3, LEAST, GREATEST};
        for (int size : noSizes) {
            check.due("fill(0," + size + ",1)", x.fill(0, size, 1), -2);
        }
        check.due("fill(0,2,7)", x.fill(0, 2, 7), 7);
        check.says(17, "`printer`: the printer");
        check.due("fill(1,2,8)", x.fill(1, 2, 8), 8);
        check.due("tray 2", x.printer(0, 2), 7);
    }

    private static void fillErrors(Check check) {
        check.says(17, "Returns the number of sheets in the tray then; NO_SUCH if there is no such printer; BAD_VALUE if "
            + "size or sheets is out of range; NOT_POSSIBLE if the tray would contain less than 0 or more than 500 "
            + "sheets.");
        PrintSpooler x = new PrintSpooler();
        check.due("no printer", x.fill(0, 0, 1), -1);
        check.due("no printer, no size, too many", x.fill(0, 9, 999), -1);
        x.addPrinter(1, 1, 0);
        int[] noPrinters = {-1, 1, 2, 3, LEAST, GREATEST};
        for (int printer : noPrinters) {
            check.due("fill(" + printer + ",0,1)", x.fill(printer, 0, 1), -1);
            check.due("fill(" + printer + ",3,501)", x.fill(printer, 3, 501), -1);
            check.due("fill(" + printer + ",0,-1)", x.fill(printer, 0, -1), -1);
        }
        check.due("less than 0", x.fill(0, 0, -1), -5);
        check.due("less than 0", x.fill(0, 0, -500), -5);
        check.due("out of range rather than less than 0", x.fill(0, 0, -501), -2);
        check.due("0", x.fill(0, 0, 0), 0);
        check.due("1", x.fill(0, 0, 1), 1);
        check.due("more than 500", x.fill(0, 0, 500), -5);
        check.due("500", x.fill(0, 0, 499), 500);
        check.due("more than 500", x.fill(0, 0, 1), -5);
        check.due("more than 500", x.fill(0, 0, 500), -5);
        check.due("out of range rather than more than 500", x.fill(0, 0, 501), -2);
        check.due("no size rather than more than 500", x.fill(0, 3, 500), -2);
        check.due("500 as before", x.fill(0, 0, 0), 500);
        check.due("300", x.fill(0, 0, -200), 300);
        check.due("less than 0", x.fill(0, 0, -301), -5);
        check.due("0", x.fill(0, 0, -300), 0);
    }

    private static void printer(Check check, PrintSpooler x, int printer, int[] want) {
        for (int what = 0; what <= 6; what++) {
            check.due("printer(" + printer + "," + what + ")", x.printer(printer, what), want[what]);
        }
    }

    private static void properties(Check check) {
        check.says(18, "Returns a property of a printer.");
        PrintSpooler x = new PrintSpooler();
        x.addPrinter(5, 20, 1);
        x.addPrinter(5, 20, 1);
        x.addDocument(4, 1, 13, 0, 1);
        x.fill(0, 1, 3);
        x.fill(0, 2, 8);
        check.says(18, "`what`: 0 to 2 for the number of sheets in the tray for this paper size, 3 for its state, 4 for "
            + "the job that it prints (NONE if it is not PRINTING), 5 for the remaining time of its sheet (NONE "
            + "likewise), 6 for the number of sheets that were lost by jams on it");
        printer(check, x, 0, new int[] {0, 3, 8, 0, -6, -6, 0});
        Check.submit(x, 0, "3");
        x.cancel(0);
        Check.submit(x, 0, "*");
        printer(check, x, 0, new int[] {0, 3, 8, 0, -6, -6, 0});
        x.advance(1);
        printer(check, x, 0, new int[] {0, 2, 8, 1, 1, 7, 0});
        x.advance(6);
        printer(check, x, 0, new int[] {0, 2, 8, 1, 1, 1, 0});
        x.advance(1);
        printer(check, x, 0, new int[] {0, 1, 8, 1, 1, 7, 0});
        x.jam(0);
        printer(check, x, 0, new int[] {0, 1, 8, 2, -6, -6, 1});
        x.clear(0);
        printer(check, x, 0, new int[] {0, 1, 8, 0, -6, -6, 1});
        x.jam(0);
        printer(check, x, 0, new int[] {0, 1, 8, 2, -6, -6, 1});
        x.clear(0);
        x.advance(2);
        x.jam(0);
        printer(check, x, 0, new int[] {0, 0, 8, 2, -6, -6, 2});
        x.clear(0);
        x.cancel(1);
        x.advance(1);
        printer(check, x, 0, new int[] {0, 0, 8, 0, -6, -6, 2});
        check.says(18, "`printer`: the printer");
        printer(check, x, 1, new int[] {0, 0, 0, 0, -6, -6, 0});
    }

    private static void propertyErrors(Check check) {
        check.says(18, "Returns the property; NO_SUCH if there is no such printer; BAD_VALUE if what is not 0 to 6.");
        PrintSpooler x = new PrintSpooler();
        check.due("no printer", x.printer(0, 0), -1);
        x.addPrinter(5, 20, 1);
        int[] noPrinters = {-1, 1, 2, 3, LEAST, GREATEST};
        for (int printer : noPrinters) {
            check.due("printer(" + printer + ",0)", x.printer(printer, 0), -1);
            check.due("printer(" + printer + ",4)", x.printer(printer, 4), -1);
            check.due("printer(" + printer + ",7)", x.printer(printer, 7), -1);
        }
        int[] noWhats = {-1, 7, LEAST, GREATEST};
        for (int what : noWhats) {
            check.due("printer(0," + what + ")", x.printer(0, what), -2);
        }
    }

    private static void loads(Check check) {
        check.says(0, "The load of a side is the sum of (weight / k) of its pages, where k is the number of pages per "
            + "side (2 for a booklet).");
        PrintSpooler x = new PrintSpooler();
        x.addDocument(9, 0, 10, 1, 100);
        x.addDocument(9, 0, 3, 0, 1);
        x.addPrinter(1, 30, 0);
        Check.submit(x, 0, "*");
        check.due("one page per side", x.side(0, 8, 0, 0, 0), 19);
        x.set(PrintSpooler.SIDES, 1);
        x.set(PrintSpooler.LAYOUT, 2);
        Check.submit(x, 0, "*");
        check.due("two per side", x.side(1, 0, 1, 0, 0), 6 + 7);
        check.due("a blank position counts 0", x.side(1, 2, 0, 0, 0), 9);
        x.set(PrintSpooler.LAYOUT, 4);
        Check.submit(x, 0, "*");
        check.due("front 0", x.side(2, 0, 0, 0, 0), 2 + 3 + 3 + 3);
        check.due("back 0", x.side(2, 0, 1, 0, 0), 3 + 4 + 4 + 4);
        check.due("front 1", x.side(2, 1, 0, 0, 0), 4);
        x.set(PrintSpooler.LAYOUT, 0);
        Check.submit(x, 0, "-5");
        check.due("booklet, front 0", x.side(3, 0, 0, 0, 0), 5);
        check.due("booklet, back 0", x.side(3, 0, 1, 0, 0), 6);
        check.due("booklet, back 1", x.side(3, 1, 1, 0, 0), 7 + 7);
        check.says(0, "All numbers are integers; divisions are truncated.");
        x.set(PrintSpooler.LAYOUT, 4);
        Check.submit(x, 1, "*");
        check.due("four times 3 / 4", x.side(4, 0, 0, 0, 0), 0);
    }

    private static void band(Check check, int memory, int load, int bands, int coarse) {
        PrintSpooler x = new PrintSpooler();
        x.addDocument(1, 0, Math.min(load, 500), 0, 1);
        // Its pages weigh 501 to 900.
        x.addDocument(400, 0, 500, 1, 500);
        x.addPrinter(1, memory, 0);
        Check.submit(x, load > 500 ? 1 : 0, "" + Math.max(1, load - 500));
        String name = "load " + load + " with memory " + memory;
        check.due(name + ": load", x.side(0, 0, 0, 0, 0), load);
        check.due(name + ": bands", x.side(0, 0, 0, 0, 1), bands);
        check.due(name + ": coarse", x.side(0, 0, 0, 0, 2), coarse);
        check.due(name + ": duration", x.duration(0, 0), 1 + bands);
    }

    private static void bands(Check check) {
        check.says(0, BANDS);
        int[][] fine = {{26, 1}, {25, 2}, {14, 2}, {13, 4}, {8, 4}, {7, 8}, {4, 8}, {3, 16}, {2, 16}};
        for (int[] row : fine) {
            band(check, row[0], 13, row[1], 0);
        }
        int[][] powers = {{32, 1}, {31, 2}, {16, 2}, {15, 4}, {8, 4}, {7, 8}, {4, 8}, {3, 16}, {2, 16}};
        for (int[] row : powers) {
            band(check, row[0], 16, row[1], 0);
        }
        band(check, 2000, 500, 1, 0);
        band(check, 1000, 500, 1, 0);
        band(check, 999, 500, 2, 0);
        band(check, 1800, 900, 1, 0);
        band(check, 1799, 900, 2, 0);
        band(check, 114, 900, 16, 0);
        band(check, 2, 1, 1, 0);
        check.says(0, COARSE);
        // 2 * ((load + 15) / 16) is just more than the memory
        band(check, 113, 900, 8, 1);
        band(check, 1, 16, 16, 1);
        band(check, 3, 17, 4, 1);
        band(check, 2, 17, 4, 1);
        band(check, 3, 20, 8, 1);
        band(check, 6, 60, 8, 1);
        band(check, 5, 60, 8, 1);
        band(check, 3, 64, 16, 1);
        band(check, 3, 68, 16, 1);
        band(check, 2, 67, 16, 1);
        // load / 4 is 0: one band suffices
        band(check, 1, 1, 1, 1);
        band(check, 1, 3, 1, 1);
        // load / 4 is 1: a line in each band takes 2, so there is no such number
        band(check, 1, 4, 16, 1);
        band(check, 1, 7, 16, 1);
        band(check, 1, 13, 16, 1);
        band(check, 1, 900, 16, 1);
    }

    /** All loads to 900 with some memories, after the words of the document. */
    private static void allBands(Check check) {
        check.says(0, BANDS);
        for (int load = 1; load <= 500; load += load < 70 ? 1 : 43) {
            for (int memory = 1; memory <= 2000; memory += memory < 80 ? 1 : 97) {
                int bands = bandsOf(load, memory);
                boolean coarse = bands == 0;
                if (coarse) {
                    bands = bandsOf(load / 4, memory);
                }
                band(check, memory, load, bands == 0 ? 16 : bands, coarse ? 1 : 0);
            }
        }
    }

    private static int bandsOf(int load, int memory) {
        for (int b = 1; b <= 16; b *= 2) {
            if (2 * ((load + b - 1) / b) <= memory) {
                return b;
            }
        }
        return 0;
    }

    private static void blankSides(Check check) {
        check.says(0, BLANK);
        PrintSpooler x = new PrintSpooler();
        x.addDocument(9, 0, 1, 0, 1);
        x.addPrinter(1, 1, 0);
        x.addPrinter(1, 2000, 0);
        x.set(PrintSpooler.SIDES, 1);
        x.set(PrintSpooler.LAYOUT, 4);
        Check.submit(x, 0, "*");
        for (int printer = 0; printer <= 1; printer++) {
            for (int what = 0; what <= 2; what++) {
                check.due("a blank back", x.side(0, 1, 1, printer, what), 0);
            }
            check.due("load of light pages", x.side(0, 0, 0, printer, 0), 0);
            check.due("bands of light pages", x.side(0, 0, 0, printer, 1), 1);
            check.due("light pages are not coarse", x.side(0, 0, 0, printer, 2), 0);
        }
        check.due("load of one light page", x.side(0, 1, 0, 0, 0), 0);
        check.due("bands of one light page", x.side(0, 1, 0, 0, 1), 1);
        x.set(PrintSpooler.LAYOUT, 0);
        Check.submit(x, 0, "1");
        for (int what = 0; what <= 2; what++) {
            check.due("the blank back of a booklet", x.side(1, 0, 1, 0, what), 0);
        }
    }

    private static void sides(Check check) {
        check.says(19, "Returns a number about a side of a sheet on a printer.");
        PrintSpooler x = new PrintSpooler();
        x.addDocument(9, 0, 10, 1, 100);
        x.addDocument(9, 0, 60, 0, 1);
        x.addPrinter(1, 22, 0);
        x.addPrinter(1, 6, 0);
        x.set(PrintSpooler.COPIES, 2);
        x.set(PrintSpooler.SIDES, 1);
        Check.submit(x, 0, "*");
        x.set(PrintSpooler.COLLATE, 0);
        Check.submit(x, 1, "*");
        Check.submit(x, 0, "*");
        check.says(19, "`what`: 0 for the load, 1 for the bands, 2 for whether it is coarse (1 or 0)");
        int[] fine = {12, 2, 0};
        int[] coarse = {60, 8, 1};
        for (int what = 0; what <= 2; what++) {
            check.due("a fine side", x.side(0, 0, 1, 0, what), fine[what]);
            check.due("a coarse side", x.side(1, 0, 0, 1, what), coarse[what]);
        }
        check.says(19, "`side`: 0 or 1");
        check.due("the front", x.side(0, 0, 0, 0, 0), 11);
        check.due("the back", x.side(0, 0, 1, 0, 0), 12);
        check.says(19, "`printer`: the printer");
        check.due("printer 0", x.side(0, 0, 0, 0, 1), 1);
        check.due("printer 1", x.side(0, 0, 0, 1, 1), 4);
        check.says(19, "`sheet`: the sheet");
        check.due("the second sheet", x.side(0, 1, 0, 0, 0), 13);
        check.due("the first sheet of the second copy", x.side(0, 5, 0, 0, 0), 11);
        check.due("the last sheet", x.side(0, 9, 0, 0, 0), 19);
        check.due("not collated, the second", x.side(2, 1, 0, 0, 0), 11);
        check.due("not collated, the third", x.side(2, 2, 0, 0, 0), 13);
        check.says(19, "`job`: the job");
        check.due("job 1", x.side(1, 1, 0, 0, 0), 60);
    }

    private static void sideErrors(Check check) {
        check.says(19, "Returns the number; NO_SUCH if there is no such job, sheet or printer; BAD_VALUE if the sheet has "
            + "no such side or what is not 0 to 2.");
        PrintSpooler x = new PrintSpooler();
        check.due("no job, no printer", x.side(0, 0, 0, 0, 0), -1);
        x.addDocument(9, 0, 10, 1, 100);
        Check.submit(x, 0, "*");
        check.due("no printer", x.side(0, 0, 0, 0, 0), -1);
        check.due("no printer, no side, no what", x.side(0, 0, 5, 0, 5), -1);
        x.addPrinter(1, 30, 0);
        int[] none = {-1, 9, LEAST, GREATEST};
        for (int one : none) {
            check.due("no job " + one, x.side(one, 0, 0, 0, 0), -1);
            check.due("no sheet " + one, x.side(0, one, 0, 0, 0), -1);
            check.due("no printer " + one, x.side(0, 0, 0, one, 0), -1);
            check.due("no job, no side " + one, x.side(one, 0, 1, 0, 0), -1);
            check.due("no sheet, no side " + one, x.side(0, one, 1, 0, 0), -1);
            check.due("no printer, no side " + one, x.side(0, 0, 1, one, 0), -1);
            check.due("no job, no what " + one, x.side(one, 0, 0, 0, 3), -1);
            check.due("no sheet, no what " + one, x.side(0, one, 0, 0, 3), -1);
            check.due("no printer, no what " + one, x.side(0, 0, 0, one, 3), -1);
            check.due("no side " + one, x.side(0, 0, one, 0, 0), -2);
            check.due("no what " + one, x.side(0, 0, 0, 0, one), -2);
        }
        check.due("the next job", x.side(1, 0, 0, 0, 0), -1);
        check.due("the next printer", x.side(0, 0, 0, 1, 0), -1);
        check.due("one-sided: no back", x.side(0, 0, 1, 0, 0), -2);
        check.due("what 3", x.side(0, 0, 0, 0, 3), -2);
        x.set(PrintSpooler.SIDES, PrintSpooler.LONG_EDGE);
        Check.submit(x, 0, "*");
        check.due("side 2", x.side(1, 0, 2, 0, 0), -2);
        check.due("sheet 5 of 5", x.side(1, 5, 0, 0, 0), -1);
    }

    private static void ticks(Check check) {
        check.says(0, "Printing a side takes (speed + bands) ticks, a blank side 0 ticks; printing a sheet takes the sum "
            + "of both sides.");
        PrintSpooler x = Make.document(3, 0);
        x.addPrinter(5, 20, 1);
        x.addPrinter(50, 26, 1);
        Check.submit(x, 0, "1");
        check.due("a side with two bands", x.duration(0, 0), 7);
        check.due("a side with a band", x.duration(0, 1), 51);
        x.set(PrintSpooler.SIDES, PrintSpooler.LONG_EDGE);
        Check.submit(x, 0, "1");
        check.due("with a blank back", x.duration(1, 0), 7);
        Check.submit(x, 0, "1-2");
        check.due("with a printed back", x.duration(2, 0), 14);
        x.fill(0, 0, 9);
        x.cancel(0);
        x.cancel(1);
        x.advance(1);
        check.due("remaining", x.printer(0, 5), 14);
        x.advance(13);
        check.due("remaining", x.printer(0, 5), 1);
        x.advance(1);
        check.due("DONE", x.about(2, 9), 3);
    }

    private static void durations(Check check) {
        check.says(20, "Returns the number of ticks that printing all sheets of a job takes on a printer (whether it could "
            + "print them or not).");
        PrintSpooler x = new PrintSpooler();
        x.addDocument(5, 0, 13, 0, 1);
        x.addDocument(5, 0, 13, 13, 26);
        x.addPrinter(5, 20, 0);
        x.set(PrintSpooler.COPIES, 3);
        x.set(PrintSpooler.SIDES, 1);
        Check.submit(x, 0, "*");
        // five printed sides of 7 ticks, a blank one of 0, though the printer has no paper and can't print on both
        check.due("duration(0,0)", x.duration(0, 0), 3 * 35);
        x.set(PrintSpooler.COLLATE, 0);
        Check.submit(x, 0, "*");
        check.due("not collated", x.duration(1, 0), 3 * 35);
        x.set(PrintSpooler.LAYOUT, 0);
        Check.submit(x, 0, "*");
        check.due("booklet", x.duration(2, 0), 3 * (6 + 6 + 6 + 7));
        x.set(PrintSpooler.LAYOUT, 1);
        Check.submit(x, 1, "*");
        // loads 26, 13, 26, 13, 26 with 4, 2, 4, 2, 4 bands
        check.due("sides that differ", x.duration(3, 0), 3 * (9 + 7 + 9 + 7 + 9));
        x.cancel(3);
        x.jam(0);
        check.due("a canceled job on a jammed printer", x.duration(3, 0), 3 * 41);
        check.says(20, "`printer`: the printer");
        x.addPrinter(50, 2000, 0);
        check.due("another printer", x.duration(0, 1), 3 * 5 * 51);
        check.says(20, "`job`: the job");
        Check.submit(x, 0, "1");
        check.due("another job", x.duration(4, 1), 3 * 51);
        PrintSpooler y = new PrintSpooler();
        y.addDocument(400, 0, 500, 0, 1);
        y.addPrinter(50, 1, 0);
        y.set(PrintSpooler.COPIES, 10);
        Check.submit(y, 0, "*");
        check.due("the longest job", y.duration(0, 0), 4000 * 66);
    }

    private static void durationErrors(Check check) {
        check.says(20, "Returns the sum over all sheets; NO_SUCH if there is no such job or printer.");
        PrintSpooler x = Make.document(5, 0);
        check.due("no job, no printer", x.duration(0, 0), -1);
        x.addPrinter(5, 20, 0);
        check.due("no job", x.duration(0, 0), -1);
        Check.submit(x, 0, "*");
        check.due("the sum", x.duration(0, 0), 35);
        int[] none = {-1, 1, 2, 3, 24, LEAST, GREATEST};
        for (int one : none) {
            check.due("no job " + one, x.duration(one, 0), -1);
            check.due("no printer " + one, x.duration(0, one), -1);
        }
        PrintSpooler y = Make.document(5, 0);
        Check.submit(y, 0, "*");
        check.due("no printer", y.duration(0, 0), -1);
    }
}
