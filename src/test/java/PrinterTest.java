/** Promises 16 to 20: printers, trays, sides on a printer and durations. */
public final class PrinterTest {
    public static void main(String[] args) {
        Check check = new Check();
        adding(check);
        filling(check);
        properties(check);
        sides(check);
        sideErrors(check);
        durations(check);
        check.end();
    }

    private static void adding(Check check) {
        check.promise(16);
        PrintSpooler x = new PrintSpooler();
        int[][] bad = {{0, 1, 0}, {51, 1, 0}, {1, 0, 0}, {1, 2001, 0}, {1, 1, -1}, {1, 1, 2}};
        for (int[] b : bad) {
            check.due("addPrinter out of range", x.addPrinter(b[0], b[1], b[2]), -2);
        }
        check.due("addPrinter", x.addPrinter(1, 1, 0), 0);
        check.due("addPrinter", x.addPrinter(50, 2000, 1), 1);
        check.due("addPrinter", x.addPrinter(50, 2000, 1), 2);
        check.due("the fourth", x.addPrinter(50, 2000, 1), -4);
        check.due("a bad fourth", x.addPrinter(50, 2001, 1), -2);
        check.due("count(2)", x.count(2), 3);
    }

    private static void filling(Check check) {
        check.promise(17);
        PrintSpooler x = new PrintSpooler();
        check.due("no printer", x.fill(0, 9, 999), -1);
        x.addPrinter(1, 1, 0);
        check.due("fill(-1,0,1)", x.fill(-1, 0, 1), -1);
        check.due("fill(0,-1,1)", x.fill(0, -1, 1), -2);
        check.due("fill(0,3,1)", x.fill(0, 3, 1), -2);
        check.due("fill(0,0,501)", x.fill(0, 0, 501), -2);
        check.due("fill(0,0,-501)", x.fill(0, 0, -501), -2);
        check.due("fill(0,0,-1)", x.fill(0, 0, -1), -5);
        check.due("fill(0,0,0)", x.fill(0, 0, 0), 0);
        check.due("fill(0,0,500)", x.fill(0, 0, 500), 500);
        check.due("fill(0,0,1)", x.fill(0, 0, 1), -5);
        check.due("fill(0,2,7)", x.fill(0, 2, 7), 7);
        check.due("fill(0,0,-200)", x.fill(0, 0, -200), 300);
        check.due("fill(0,0,-301)", x.fill(0, 0, -301), -5);
        check.due("fill(0,0,-300)", x.fill(0, 0, -300), 0);
        check.due("tray 2", x.printer(0, 2), 7);
    }

    private static void properties(Check check) {
        check.promise(18);
        PrintSpooler x = new PrintSpooler();
        check.due("no printer", x.printer(0, 9), -1);
        x.addPrinter(5, 20, 1);
        x.addDocument(4, 1, 13, 0, 1);
        x.fill(0, 1, 3);
        int[] idle = {0, 3, 0, 0, -6, -6, 0};
        printer(check, x, idle);
        check.due("printer(0,-1)", x.printer(0, -1), -2);
        check.due("printer(0,7)", x.printer(0, 7), -2);
        check.due("printer(-1,0)", x.printer(-1, 0), -1);
        check.due("printer(1,0)", x.printer(1, 0), -1);
        Check.submit(x, 0, "3");
        x.cancel(0);
        Check.submit(x, 0, "*");
        x.advance(3);
        int[] printing = {0, 2, 0, 1, 1, 5, 0};
        printer(check, x, printing);
        x.jam(0);
        int[] jammed = {0, 2, 0, 2, -6, -6, 1};
        printer(check, x, jammed);
        x.clear(0);
        x.cancel(1);
        x.advance(1);
        int[] again = {0, 2, 0, 0, -6, -6, 1};
        printer(check, x, again);
    }

    private static void printer(Check check, PrintSpooler x, int[] want) {
        for (int what = 0; what <= 6; what++) {
            check.due("printer(0," + what + ")", x.printer(0, what), want[what]);
        }
    }

    private static void bands(Check check, int memory, int load, int bands, int coarse) {
        PrintSpooler x = new PrintSpooler();
        x.addDocument(1, 0, load, 0, 1);
        x.addPrinter(1, memory, 0);
        Check.submit(x, 0, "*");
        String name = "load " + load + " with memory " + memory;
        check.due(name + ": load", x.side(0, 0, 0, 0, 0), load);
        check.due(name + ": bands", x.side(0, 0, 0, 0, 1), bands);
        check.due(name + ": coarse", x.side(0, 0, 0, 0, 2), coarse);
    }

    private static void sides(Check check) {
        check.promise(19);
        bands(check, 26, 13, 1, 0);
        bands(check, 25, 13, 2, 0);
        bands(check, 14, 13, 2, 0);
        bands(check, 13, 13, 4, 0);
        bands(check, 8, 13, 4, 0);
        bands(check, 7, 13, 8, 0);
        bands(check, 4, 13, 8, 0);
        bands(check, 3, 13, 16, 0);
        bands(check, 2, 13, 16, 0);
        // coarse: load / 4 is 3, and even one line in a band takes 2
        bands(check, 1, 13, 16, 1);
        bands(check, 1, 3, 1, 1);
        bands(check, 2, 17, 4, 1);
        bands(check, 6, 60, 8, 1);
        bands(check, 2000, 500, 1, 0);
        PrintSpooler x = new PrintSpooler();
        x.addDocument(9, 0, 10, 1, 100);
        x.addDocument(9, 0, 1, 0, 1);
        x.addPrinter(1, 30, 0);
        x.set(PrintSpooler.LAYOUT, 4);
        x.set(PrintSpooler.SIDES, 1);
        Check.submit(x, 0, "*");
        // weights 11 to 19, each divided by 4 before they are added
        check.due("front 0", x.side(0, 0, 0, 0, 0), 2 + 3 + 3 + 3);
        check.due("back 0", x.side(0, 0, 1, 0, 0), 3 + 4 + 4 + 4);
        check.due("front 1", x.side(0, 1, 0, 0, 0), 4);
        for (int what = 0; what <= 2; what++) {
            check.due("blank back", x.side(0, 1, 1, 0, what), 0);
        }
        Check.submit(x, 1, "*");
        check.due("light pages", x.side(1, 0, 0, 0, 0), 0);
        check.due("bands of light pages", x.side(1, 0, 0, 0, 1), 1);
        x.set(PrintSpooler.LAYOUT, 0);
        Check.submit(x, 0, "-5");
        check.due("booklet, front 0", x.side(2, 0, 0, 0, 0), 5);
        check.due("booklet, back 1", x.side(2, 1, 1, 0, 0), 7 + 7);
    }

    private static void sideErrors(Check check) {
        check.promise(19);
        PrintSpooler x = new PrintSpooler();
        check.due("no job", x.side(0, 0, 0, 0, 0), -1);
        x.addDocument(9, 0, 10, 1, 100);
        Check.submit(x, 0, "*");
        check.due("no printer", x.side(0, 0, 5, 0, 5), -1);
        x.addPrinter(1, 30, 0);
        check.due("side(0,9,0,0,0)", x.side(0, 9, 0, 0, 0), -1);
        check.due("side(0,-1,0,0,0)", x.side(0, -1, 0, 0, 0), -1);
        check.due("side(0,0,0,-1,0)", x.side(0, 0, 0, -1, 0), -1);
        check.due("side(-1,0,0,0,0)", x.side(-1, 0, 0, 0, 0), -1);
        check.due("side(0,0,1,0,0)", x.side(0, 0, 1, 0, 0), -2);
        check.due("side(0,0,-1,0,0)", x.side(0, 0, -1, 0, 0), -2);
        check.due("side(0,0,0,0,3)", x.side(0, 0, 0, 0, 3), -2);
        check.due("side(0,0,0,0,-1)", x.side(0, 0, 0, 0, -1), -2);
    }

    private static void durations(Check check) {
        check.promise(20);
        PrintSpooler x = new PrintSpooler();
        x.addDocument(5, 0, 13, 0, 1);
        x.addPrinter(5, 20, 0);
        check.due("no job", x.duration(0, 0), -1);
        x.set(PrintSpooler.COPIES, 3);
        x.set(PrintSpooler.SIDES, 1);
        Check.submit(x, 0, "*");
        check.due("no printer", x.duration(0, 1), -1);
        check.due("duration(0,-1)", x.duration(0, -1), -1);
        check.due("duration(-1,0)", x.duration(-1, 0), -1);
        // five printed sides of 7 ticks, a blank one of 0, though the printer can't print on both
        check.due("duration(0,0)", x.duration(0, 0), 3 * 35);
        x.set(PrintSpooler.COLLATE, 0);
        Check.submit(x, 0, "*");
        check.due("not collated", x.duration(1, 0), 3 * 35);
        x.set(PrintSpooler.LAYOUT, 0);
        Check.submit(x, 0, "*");
        check.due("booklet", x.duration(2, 0), 3 * (6 + 6 + 6 + 7));
    }
}
