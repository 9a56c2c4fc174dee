/** Promises 29 to 31: what happens in a tick, the log and the printed sheets. */
public final class TimeTest {
    public static void main(String[] args) {
        Check check = new Check();
        advancing(check);
        sheets(check);
        supply(check);
        requests(check);
        margins(check);
        firstMargin(check);
        sameTick(check);
        choice(check);
        twoPrinters(check);
        log(check);
        printed(check);
        check.end();
    }

    /** A printer with 20 sheets that takes 7 ticks a sheet, and a job of a document with 4 pages. */
    static PrintSpooler printing(String text) {
        PrintSpooler x = new PrintSpooler();
        x.addDocument(4, 0, 13, 0, 1);
        x.addPrinter(5, 20, 0);
        x.fill(0, 0, 20);
        Check.submit(x, 0, text);
        return x;
    }

    private static void advancing(Check check) {
        check.promise(29);
        PrintSpooler x = new PrintSpooler();
        check.due("advance(0)", x.advance(0), -2);
        check.due("advance(-1)", x.advance(-1), -2);
        check.due("advance(1001)", x.advance(1001), -2);
        check.due("advance(1)", x.advance(1), 1);
        check.due("advance(1000)", x.advance(1000), 1001);
        check.due("count(3)", x.count(3), 1001);
    }

    private static void sheets(Check check) {
        check.promise(29);
        PrintSpooler x = printing("*");
        check.due("WAITING", x.about(0, 9), 0);
        x.advance(1);
        check.due("PRINTING", x.about(0, 9), 1);
        check.due("remaining", x.printer(0, 5), 7);
        check.due("a sheet is taken", x.printer(0, 0), 19);
        x.advance(6);
        check.due("remaining", x.printer(0, 5), 1);
        check.due("next sheet", x.about(0, 10), 0);
        x.advance(1);
        check.due("next sheet", x.about(0, 10), 1);
        check.due("the next one begins at once", x.printer(0, 5), 7);
        x.advance(20);
        check.due("the last sheet", x.about(0, 10), 3);
        check.due("PRINTING", x.about(0, 9), 1);
        x.advance(1);
        check.due("DONE", x.about(0, 9), 3);
        check.due("next sheet", x.about(0, 10), 4);
        check.due("IDLE", x.printer(0, 3), 0);
        check.due("sheets left", x.printer(0, 0), 16);
    }

    private static void supply(Check check) {
        check.promise(29);
        PrintSpooler x = printing("*");
        x.fill(0, 0, -18);
        x.fill(0, 1, 9);
        x.setRules(1, 1000);
        x.advance(25);
        check.due("the tray is empty", x.printer(0, 0), 0);
        check.due("WAITING", x.about(0, 9), 0);
        check.due("since time 15", x.about(0, 11), 60);
        x.fill(0, 0, 1);
        x.advance(1);
        check.due("PRINTING the last sheet of paper", x.about(0, 9), 1);
        x.advance(6);
        x.fill(0, 0, 1);
        x.advance(1);
        check.due("more paper came in time", x.about(0, 9), 1);
        check.due("next sheet", x.about(0, 10), 3);
        PrintSpooler y = new PrintSpooler();
        y.addDocument(4, 0, 13, 0, 1);
        y.addPrinter(5, 20, 0);
        y.fill(0, 0, 20);
        y.set(PrintSpooler.SIDES, 1);
        Check.submit(y, 0, "*");
        y.set(PrintSpooler.SIDES, 0);
        y.set(PrintSpooler.LAYOUT, 0);
        Check.submit(y, 0, "*");
        y.advance(100);
        check.due("two-sided", y.about(0, 9), 0);
        check.due("booklet", y.about(1, 9), 0);
        y.addPrinter(5, 20, 1);
        y.fill(1, 0, 20);
        y.advance(100);
        check.due("two-sided", y.about(0, 9), 3);
        check.due("booklet", y.about(1, 9), 3);
    }

    private static void requests(Check check) {
        check.promise(29);
        PrintSpooler x = printing("*");
        Check.submit(x, 0, "*");
        x.advance(1);
        x.hold(0);
        x.advance(7);
        check.due("HELD", x.about(0, 9), 2);
        check.due("the other begins in the same tick", x.about(1, 9), 1);
        check.due("on the printer", x.printer(0, 4), 1);
        check.due("remaining", x.printer(0, 5), 7);
        x.release(0);
        x.advance(28);
        check.due("DONE", x.about(1, 9), 3);
        check.due("the first one goes on", x.about(0, 9), 1);
        x.advance(20);
        x.fill(0, 0, -x.printer(0, 0));
        x.cancel(0);
        x.advance(1);
        check.due("DONE comes before all else", x.about(0, 9), 3);
    }

    private static void margins(Check check) {
        check.promise(29);
        PrintSpooler x = printing("*");
        x.setRules(1000, 10);
        x.advance(1);
        x.set(PrintSpooler.PRIORITY, 6);
        Check.submit(x, 0, "*");
        x.advance(7);
        check.due("a rank that equals is not enough", x.about(0, 9), 1);
        x.promote(1, 7);
        x.advance(7);
        check.due("a greater rank", x.about(0, 9), 0);
        check.due("the other prints", x.printer(0, 4), 1);
        check.due("next sheet stays", x.about(0, 10), 2);
        x.advance(28);
        check.due("the first one goes on", x.about(0, 9), 1);
        x.advance(14);
        check.due("DONE", x.about(0, 9), 3);
        check.due("time", x.log(7, 0), 57);
        PrintSpooler y = printing("*");
        y.setRules(1, 0);
        y.addDocument(4, 1, 13, 0, 1);
        y.set(PrintSpooler.PRIORITY, 9);
        Check.submit(y, 1, "*");
        y.set(PrintSpooler.SIDES, 1);
        Check.submit(y, 0, "*");
        y.advance(8);
        check.due("rivals that are not printable here", y.about(0, 9), 1);
        PrintSpooler z = printing("*");
        z.setRules(2, 3);
        Check.submit(z, 0, "*");
        z.advance(8);
        check.due("rank 54 against 53", z.about(0, 9), 0);
        check.due("aging brings the other on", z.printer(0, 4), 1);
    }

    /** The margin of a new object is 1000: a job that waited long enough comes before another all the same. */
    private static void firstMargin(Check check) {
        check.promise(29);
        for (int late = 0; late <= 1; late++) {
            PrintSpooler x = printing("*");
            x.addDocument(4, 1, 13, 0, 1);
            x.promote(0, 0);
            x.hold(0);
            x.set(PrintSpooler.PRIORITY, 9);
            Check.submit(x, 1, "*");
            for (int i = 0; i < 18; i++) {
                x.advance(1000);
            }
            // The first sheet ends at time 18200 + late * 20, when the rank of job 1 is 1000 + late.
            x.advance(192 + late * 20);
            x.release(0);
            x.advance(1);
            x.fill(0, 1, 9);
            x.advance(6);
            check.due("the rank of job 1", x.about(1, 11), 999 + late);
            x.advance(1);
            check.due("the job that prints", x.printer(0, 4), late);
        }
    }

    /** A job that printer 0 puts back is a rival on printer 1 in the same tick. */
    private static void sameTick(Check check) {
        check.promise(29);
        PrintSpooler x = new PrintSpooler();
        x.addDocument(4, 0, 13, 0, 1);
        x.addPrinter(5, 20, 0);
        x.addPrinter(5, 20, 0);
        x.fill(0, 0, 1);
        x.fill(1, 0, 9);
        x.setRules(1000, 0);
        x.set(PrintSpooler.PRIORITY, 7);
        Check.submit(x, 0, "*");
        x.set(PrintSpooler.PRIORITY, 3);
        Check.submit(x, 0, "*");
        x.advance(8);
        check.due("the tray of printer 0 is empty", x.printer(0, 3), 0);
        check.due("the better job moves to printer 1", x.printer(1, 4), 0);
        check.due("the other waits", x.about(1, 9), 0);
        check.due("its sheet is printed", x.about(1, 10), 1);
    }

    private static void choice(Check check) {
        check.promise(29);
        PrintSpooler x = new PrintSpooler();
        x.addDocument(4, 0, 13, 0, 1);
        int[] priorities = {4, 6, 6, 5};
        for (int priority : priorities) {
            x.set(PrintSpooler.PRIORITY, priority);
            Check.submit(x, 0, "1");
        }
        x.addPrinter(5, 20, 0);
        x.fill(0, 0, 9);
        x.advance(29);
        int[] order = {1, 2, 3, 0};
        for (int i = 0; i < 4; i++) {
            check.due("the job of log " + i, x.log(i, 2), order[i]);
        }
        PrintSpooler y = new PrintSpooler();
        y.addDocument(4, 0, 13, 0, 1);
        Check.submit(y, 0, "1");
        y.advance(19);
        y.set(PrintSpooler.PRIORITY, 6);
        Check.submit(y, 0, "1");
        y.addPrinter(5, 20, 0);
        y.fill(0, 0, 9);
        y.setRules(2, 1000);
        y.advance(1);
        check.due("equal ranks: the lowest number", y.printer(0, 4), 0);
        check.due("rank of the other", y.about(1, 11), 60);
    }

    private static void twoPrinters(Check check) {
        check.promise(29);
        PrintSpooler x = new PrintSpooler();
        x.addDocument(4, 0, 13, 0, 1);
        x.addPrinter(9, 20, 0);
        x.addPrinter(5, 20, 0);
        x.fill(0, 0, 9);
        x.fill(1, 0, 9);
        Check.submit(x, 0, "1");
        Check.submit(x, 0, "2");
        Check.submit(x, 0, "3");
        x.advance(1);
        check.due("printer 0", x.printer(0, 4), 0);
        check.due("printer 1", x.printer(1, 4), 1);
        x.advance(7);
        check.due("printer 1", x.printer(1, 4), 2);
        x.advance(7);
        int[][] due = {{8, 1, 1, 0}, {12, 0, 0, 0}, {15, 1, 2, 0}};
        for (int number = 0; number < 3; number++) {
            for (int what = 0; what < 4; what++) {
                check.due("log(" + number + "," + what + ")", x.log(number, what), due[number][what]);
            }
        }
    }

    private static void log(Check check) {
        check.promise(30);
        PrintSpooler x = new PrintSpooler();
        check.due("log(0,4)", x.log(0, 4), -2);
        check.due("log(0,-1)", x.log(0, -1), -2);
        check.due("log(0,0)", x.log(0, 0), -6);
        x.addDocument(400, 0, 1, 0, 1);
        x.addPrinter(1, 20, 0);
        x.fill(0, 0, 500);
        Check.submit(x, 0, "*");
        x.advance(201);
        check.due("count(4)", x.count(4), 100);
        check.due("the first", x.log(0, 0), 3);
        check.due("the last", x.log(99, 3), 99);
        check.due("log(100,0)", x.log(100, 0), -6);
        x.advance(100);
        check.due("count(4)", x.count(4), 150);
        check.due("log(49,0)", x.log(49, 0), -6);
        check.due("log(50,3)", x.log(50, 3), 50);
        check.due("log(149,0)", x.log(149, 0), 301);
        check.due("log(150,0)", x.log(150, 0), -6);
        check.due("log(-1,0)", x.log(-1, 0), -6);
        check.due("log(-1,4)", x.log(-1, 4), -2);
        check.due("log(greatest,0)", x.log(Integer.MAX_VALUE, 0), -6);
        check.due("log(least,0)", x.log(Integer.MIN_VALUE, 0), -6);
    }

    private static void printed(Check check) {
        check.promise(31);
        PrintSpooler x = printing("-3");
        x.set(PrintSpooler.USER, 5);
        Check.submit(x, 0, "*");
        x.advance(30);
        check.due("printed(0)", x.printed(0), 3);
        check.due("printed(5)", x.printed(5), 1);
        check.due("printed(1)", x.printed(1), 0);
        check.due("printed(6)", x.printed(6), -1);
        check.due("printed(-1)", x.printed(-1), -1);
    }
}
