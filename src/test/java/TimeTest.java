/** Promises 29 to 31: what happens in a tick, the log and the printed sheets. */
public final class TimeTest {
    private static final int LEAST = Integer.MIN_VALUE, GREATEST = Integer.MAX_VALUE;
    private static final String CASE_B = "b. If there is a request, the job becomes HELD or CANCELED, and there is no "
        + "request any more.";
    private static final String CASE_C = "c. If the tray for the paper size is empty, or the number of printed sheets of "
        + "the user is not less than the quota, the job becomes WAITING.";
    private static final String CASE_D = "d. If some job is printable on this printer whose rank is greater than "
        + "10 * PRIORITY of this job + margin, this job becomes WAITING.";
    private static final String CASE_E = "e. The next sheet begins: a sheet is taken from the tray, and the remaining "
        + "time is the time that printing the sheet takes on this printer.";
    private static final String STEP_TWO = "2. For each printer that is PRINTING, in ascending order: the remaining time of "
        + "its sheet decreases by 1. If it is 0 then, the sheet is printed: it is recorded in the log, the number of "
        + "printed sheets of the user of the job increases by 1, and the next sheet of the job increases by 1. Then the "
        + "first of the following that applies happens:";
    private static final String STEP_THREE = "3. For each printer that is IDLE, in ascending order: if some jobs are "
        + "printable on it, the one with the greatest rank begins on it, of several the one with the lowest number: the "
        + "job and the printer become PRINTING, and its next sheet begins as in case e.";
    private static final String LATEST = "The log keeps the latest 100 printed sheets.";

    public static void main(String[] args) {
        Check check = new Check();
        advancing(check);
        oneByOne(check);
        printedSheet(check);
        ascendingPrinters(check);
        lastSheet(check);
        requests(check);
        supply(check);
        margins(check);
        notPrintableRivals(check);
        firstMargin(check);
        nextSheet(check);
        idleAgain(check);
        sameTick(check);
        choice(check);
        idlePrinters(check);
        log(check);
        logErrors(check);
        latest(check);
        printed(check);
        check.end();
    }

    private static void advancing(Check check) {
        check.says(0, "The time is 0 initially.");
        PrintSpooler x = new PrintSpooler();
        check.due("count(3)", x.count(3), 0);
        check.says(29, "`ticks`: 1 to 1000");
        int[] refused = {0, -1, 1001, LEAST, GREATEST};
        for (int ticks : refused) {
            check.due("advance(" + ticks + ")", x.advance(ticks), -2);
        }
        check.due("count(3)", x.count(3), 0);
        check.due("advance(1)", x.advance(1), 1);
        check.due("advance(1000)", x.advance(1000), 1001);
        check.says(29, "Lets some ticks pass.");
        check.due("advance(7)", x.advance(7), 1008);
        check.due("count(3)", x.count(3), 1008);
        check.says(29, "Returns the time then; BAD_VALUE if ticks is out of range.");
        check.due("advance(1001)", x.advance(1001), -2);
        check.due("advance(0)", x.advance(0), -2);
        check.due("advance(999)", x.advance(999), 2007);
        check.says(0, "In each tick the following happens:");
        PrintSpooler y = Make.printing("*");
        y.advance(1);
        check.due("a tick", y.about(0, 9), 1);
        check.says(0, "1. The time increases by 1.");
        check.due("count(3)", y.count(3), 1);
        y.advance(7);
        check.due("the new time is in the log", y.log(0, 0), 8);
    }

    /** Many ticks at once are as many ticks one by one. */
    private static void oneByOne(Check check) {
        check.says(29, "Lets some ticks pass.");
        for (int ticks = 1; ticks <= 120; ticks += 7) {
            PrintSpooler x = twoJobs();
            PrintSpooler y = twoJobs();
            x.advance(ticks);
            for (int i = 0; i < ticks; i++) {
                y.advance(1);
            }
            check.due("after " + ticks + " ticks", SavingTest.everything(x), SavingTest.everything(y));
        }
    }

    private static PrintSpooler twoJobs() {
        PrintSpooler x = Make.printing("*,*");
        x.addPrinter(3, 9, 1);
        x.fill(1, 0, 3);
        x.setRules(3, 5);
        x.set(PrintSpooler.SIDES, PrintSpooler.LONG_EDGE);
        Check.submit(x, 0, "*,*");
        return x;
    }

    private static void printedSheet(Check check) {
        check.says(0, STEP_TWO);
        PrintSpooler x = Make.printing("*");
        x.advance(1);
        check.due("remaining", x.printer(0, 5), 7);
        for (int left = 6; left >= 1; left--) {
            x.advance(1);
            check.due("remaining", x.printer(0, 5), left);
            check.due("printed sheets", x.count(4), 0);
            check.due("next sheet", x.about(0, 10), 0);
        }
        x.advance(1);
        check.due("the log", x.log(0, 3), 0);
        check.due("printed sheets", x.count(4), 1);
        check.due("printed sheets of the user", x.printed(0), 1);
        check.due("next sheet", x.about(0, 10), 1);
        x.jam(0);
        x.advance(10);
        check.due("a JAMMED printer prints nothing", x.count(4), 1);
    }

    /** Two sheets that are printed in the same tick: that of printer 0 comes first. */
    private static void ascendingPrinters(Check check) {
        check.says(0, STEP_TWO);
        PrintSpooler x = Make.document(4, 0);
        Check.submit(x, 0, "*");
        x.set(PrintSpooler.PRIORITY, 9);
        Check.submit(x, 0, "*");
        for (int printer = 0; printer < 3; printer++) {
            x.addPrinter(5, 20, 0);
            x.fill(printer, 0, 9);
        }
        x.set(PrintSpooler.PRIORITY, 7);
        Check.submit(x, 0, "*");
        x.setQuota(0, 2);
        x.advance(8);
        int[] jobs = {1, 2, 0};
        for (int number = 0; number < 3; number++) {
            check.due("the time of log " + number, x.log(number, 0), 8);
            check.due("the printer of log " + number, x.log(number, 1), number);
            check.due("the job of log " + number, x.log(number, 2), jobs[number]);
        }
        check.due("a quota of 2: the first goes on", x.about(1, 9), 1);
        check.due("the second does not", x.about(2, 9), 0);
        check.due("nor the third", x.about(0, 9), 0);
    }

    private static void lastSheet(Check check) {
        check.says(0, "a. If this was the last sheet, the job becomes DONE.");
        PrintSpooler x = Make.printing("1-2");
        x.setQuota(0, 2);
        x.advance(14);
        check.due("the last but one", x.about(0, 9), 1);
        x.fill(0, 0, -18);
        x.cancel(0);
        x.advance(1);
        check.due("DONE before all else", x.about(0, 9), 3);
        check.due("next sheet", x.about(0, 10), 2);
        check.due("the tray is empty", x.printer(0, 0), 0);
        x.advance(100);
        check.due("still DONE", x.about(0, 9), 3);
        check.due("printed sheets", x.count(4), 2);
        PrintSpooler y = Make.document(3, 0);
        y.set(PrintSpooler.COPIES, 2);
        y.addPrinter(5, 20, 0);
        y.fill(0, 0, 9);
        Check.submit(y, 0, "*");
        y.advance(1 + 5 * 7);
        check.due("the last sheet of all copies", y.about(0, 9), 1);
        y.advance(7);
        check.due("DONE", y.about(0, 9), 3);
        check.due("next sheet", y.about(0, 10), 6);
    }

    private static void requests(Check check) {
        check.says(0, CASE_B);
        PrintSpooler x = Make.printing("*");
        Check.submit(x, 0, "*");
        x.advance(1);
        x.hold(0);
        x.advance(7);
        check.due("HELD", x.about(0, 9), 2);
        check.due("the other begins in the same tick", x.about(1, 9), 1);
        check.due("on the printer", x.printer(0, 4), 1);
        check.due("remaining", x.printer(0, 5), 7);
        x.cancel(1);
        x.release(0);
        x.advance(7);
        check.due("CANCELED", x.about(1, 9), 4);
        check.due("the first begins in the same tick", x.about(0, 9), 1);
        check.due("its request is gone", x.release(0), -5);
        x.advance(7);
        check.due("it goes on", x.about(0, 9), 1);
        x.hold(0);
        x.fill(0, 0, -x.printer(0, 0));
        x.setQuota(0, 0);
        x.advance(7);
        check.due("a request comes before an empty tray and a quota", x.about(0, 9), 2);
        PrintSpooler y = Make.printing("*");
        y.setRules(1, 0);
        y.set(PrintSpooler.PRIORITY, 9);
        y.advance(1);
        Check.submit(y, 0, "*");
        y.cancel(0);
        y.advance(7);
        check.due("a request comes before a greater rank", y.about(0, 9), 4);
    }

    private static void supply(Check check) {
        check.says(0, CASE_C);
        PrintSpooler x = Make.printing("*");
        x.fill(0, 0, -18);
        x.fill(0, 1, 9);
        x.setRules(1, 1000);
        x.advance(8);
        check.due("another sheet is left", x.about(0, 9), 1);
        check.due("it is taken", x.printer(0, 0), 0);
        x.advance(7);
        check.due("the tray is empty", x.about(0, 9), 0);
        check.due("next sheet", x.about(0, 10), 2);
        check.due("the printer", x.printer(0, 3), 0);
        x.advance(10);
        check.due("since time 15", x.about(0, 11), 60);
        x.fill(0, 0, 1);
        x.advance(1);
        check.due("PRINTING the last sheet of paper", x.about(0, 9), 1);
        x.advance(6);
        x.fill(0, 0, 1);
        x.advance(1);
        check.due("more paper came in time", x.about(0, 9), 1);
        check.due("next sheet", x.about(0, 10), 3);
        PrintSpooler y = Make.printing("*");
        y.setQuota(0, 2);
        y.advance(8);
        check.due("printed 1, the quota is 2", y.about(0, 9), 1);
        y.advance(7);
        check.due("printed 2, the quota is 2", y.about(0, 9), 0);
        y.setQuota(0, 4);
        y.advance(1);
        y.setQuota(0, 1);
        y.advance(7);
        check.due("printed 3, the quota is 1", y.about(0, 9), 0);
    }

    private static void margins(Check check) {
        check.says(0, CASE_D);
        PrintSpooler x = Make.printing("*");
        x.setRules(1000, 10);
        x.advance(1);
        x.set(PrintSpooler.PRIORITY, 6);
        Check.submit(x, 0, "*");
        x.advance(7);
        check.due("a rank that equals is not enough", x.about(0, 9), 1);
        x.promote(1, 7);
        x.advance(7);
        check.due("a greater rank", x.about(0, 9), 0);
        check.due("the other prints", x.printer(0, 4), 1);
        check.due("next sheet stays", x.about(0, 10), 2);
        x.advance(28);
        check.due("the first one goes on", x.about(0, 9), 1);
        x.advance(14);
        check.due("DONE", x.about(0, 9), 3);
        check.due("time", x.log(7, 0), 57);
        PrintSpooler z = Make.printing("*");
        z.setRules(2, 3);
        Check.submit(z, 0, "*");
        z.advance(8);
        check.due("rank 54 against 53", z.about(0, 9), 0);
        check.due("aging brings the other on", z.printer(0, 4), 1);
        PrintSpooler y = Make.printing("*");
        y.setRules(2, 4);
        Check.submit(y, 0, "*");
        y.advance(8);
        check.due("rank 54 against 54", y.about(0, 9), 1);
        PrintSpooler w = Make.printing("*");
        w.setRules(1000, 0);
        Check.submit(w, 0, "*");
        w.advance(8);
        check.due("a margin of 0: rank 50 against 50", w.printer(0, 4), 0);
        w.promote(0, 4);
        w.advance(7);
        check.due("the priority counts as it is now", w.printer(0, 4), 1);
    }

    /** A job of the greatest rank that is not printable on the printer brings nothing to an end. */
    private static void notPrintableRivals(Check check) {
        check.says(0, CASE_D);
        for (int kind = 0; kind <= 5; kind++) {
            PrintSpooler y = Make.printing("*");
            y.setRules(1, 0);
            y.addDocument(4, 1, 13, 0, 1);
            y.setQuota(1, 0);
            y.advance(1);
            y.set(PrintSpooler.PRIORITY, 9);
            y.set(PrintSpooler.SIDES, kind == 1 ? 1 : 0);
            y.set(PrintSpooler.LAYOUT, kind == 2 ? 0 : 1);
            y.set(PrintSpooler.USER, kind == 3 ? 1 : 0);
            Check.submit(y, kind == 0 ? 1 : 0, "*");
            if (kind == 4) {
                y.hold(1);
            }
            y.advance(7);
            check.due("a rival of kind " + kind, y.printer(0, 4), kind == 5 ? 1 : 0);
        }
    }

    /** The margin of a new object is 1000: a job that waited long enough comes before another all the same. */
    private static void firstMargin(Check check) {
        check.says(0, "The margin is 1000 initially.");
        for (int late = 0; late <= 1; late++) {
            PrintSpooler x = Make.printing("*");
            x.addDocument(4, 1, 13, 0, 1);
            x.promote(0, 0);
            x.hold(0);
            x.set(PrintSpooler.PRIORITY, 9);
            Check.submit(x, 1, "*");
            for (int i = 0; i < 18; i++) {
                x.advance(1000);
            }
            // The first sheet ends at time 18200 + late * 20, when the rank of job 1 is 1000 + late.
            x.advance(192 + late * 20);
            x.release(0);
            x.advance(1);
            x.fill(0, 1, 9);
            x.advance(6);
            check.due("the rank of job 1", x.about(1, 11), 999 + late);
            x.advance(1);
            check.due("the job that prints", x.printer(0, 4), late);
        }
    }

    private static void nextSheet(Check check) {
        check.says(0, CASE_E);
        PrintSpooler x = new PrintSpooler();
        x.addDocument(4, 0, 13, 13, 26);
        x.addDocument(4, 0, 13, 0, 1);
        x.addPrinter(5, 20, 0);
        x.addPrinter(9, 20, 0);
        x.fill(0, 0, 9);
        x.set(PrintSpooler.COPIES, 2);
        Check.submit(x, 0, "1-2");
        x.set(PrintSpooler.COLLATE, 0);
        Check.submit(x, 0, "1-2");
        // pages of 26 and 13 take 4 and 2 bands
        int[] collated = {9, 7, 9, 7};
        int[] piled = {9, 9, 7, 7};
        x.advance(1);
        for (int sheet = 0; sheet < 4; sheet++) {
            check.due("remaining of sheet " + sheet, x.printer(0, 5), collated[sheet]);
            check.due("sheets in the tray", x.printer(0, 0), 8 - sheet);
            x.advance(collated[sheet]);
        }
        x.fill(0, 0, 9);
        for (int sheet = 0; sheet < 4; sheet++) {
            check.due("remaining of sheet " + sheet, x.printer(0, 5), piled[sheet]);
            check.due("sheets in the tray", x.printer(0, 0), 13 - sheet);
            x.advance(piled[sheet]);
        }
        check.due("DONE", x.about(1, 9), 3);
        x.fill(0, 0, -10);
        x.fill(1, 0, 1);
        Check.submit(x, 1, "1");
        x.advance(1);
        check.due("on another printer", x.printer(1, 5), 11);
    }

    private static void idleAgain(Check check) {
        check.says(0, "Except in case e, the printer becomes IDLE.");
        PrintSpooler a = Make.printing("1");
        a.advance(8);
        check.due("case a", a.printer(0, 3), 0);
        PrintSpooler b = Make.printing("*");
        b.advance(1);
        b.hold(0);
        b.advance(7);
        check.due("case b", b.printer(0, 3), 0);
        PrintSpooler c = Make.printing("*");
        c.fill(0, 0, -19);
        c.advance(8);
        check.due("case c", c.printer(0, 3), 0);
        check.due("no job", c.printer(0, 4), -6);
        PrintSpooler d = Make.printing("*");
        d.setRules(1, 0);
        d.addPrinter(5, 20, 0);
        d.advance(1);
        Check.submit(d, 0, "*");
        d.advance(7);
        check.due("case d: the other job begins", d.printer(0, 4), 1);
        check.due("its time begins", d.printer(0, 5), 7);
        PrintSpooler e = Make.printing("*");
        e.advance(8);
        check.due("case e", e.printer(0, 3), 1);
    }

    /** A job that printer 0 puts back is a rival on printer 1 in the same tick. */
    private static void sameTick(Check check) {
        check.says(0, CASE_D);
        PrintSpooler x = Make.document(4, 0);
        x.addPrinter(5, 20, 0);
        x.addPrinter(5, 20, 0);
        x.fill(0, 0, 1);
        x.fill(1, 0, 9);
        x.setRules(1000, 0);
        x.set(PrintSpooler.PRIORITY, 7);
        Check.submit(x, 0, "*");
        x.set(PrintSpooler.PRIORITY, 3);
        Check.submit(x, 0, "*");
        x.advance(8);
        check.due("the tray of printer 0 is empty", x.printer(0, 3), 0);
        check.due("the better job moves to printer 1", x.printer(1, 4), 0);
        check.due("the other waits", x.about(1, 9), 0);
        check.due("its sheet is printed", x.about(1, 10), 1);
        // The other way round: printer 0 asks before printer 1 puts its job back.
        PrintSpooler y = Make.document(4, 0);
        y.addPrinter(5, 20, 0);
        y.addPrinter(5, 20, 0);
        y.fill(0, 0, 9);
        y.fill(1, 0, 1);
        y.setRules(1000, 0);
        y.set(PrintSpooler.PRIORITY, 3);
        Check.submit(y, 0, "*");
        y.set(PrintSpooler.PRIORITY, 7);
        Check.submit(y, 0, "*");
        y.promote(0, 9);
        y.advance(1);
        y.promote(0, 3);
        y.advance(7);
        check.due("printer 0 goes on", y.printer(0, 4), 0);
        check.due("the better job waits", y.about(1, 9), 0);
    }

    private static void choice(Check check) {
        check.says(0, STEP_THREE);
        PrintSpooler x = Make.document(4, 0);
        int[] priorities = {4, 6, 6, 5, 0, 9};
        for (int priority : priorities) {
            x.set(PrintSpooler.PRIORITY, priority);
            Check.submit(x, 0, "1");
        }
        x.addPrinter(5, 20, 0);
        x.fill(0, 0, 9);
        x.advance(1 + 6 * 7);
        int[] order = {5, 1, 2, 3, 0, 4};
        for (int i = 0; i < 6; i++) {
            check.due("the job of log " + i, x.log(i, 2), order[i]);
            check.due("the time of log " + i, x.log(i, 0), 8 + 7 * i);
        }
        for (int age = 19; age <= 21; age++) {
            PrintSpooler y = Make.document(4, 0);
            Check.submit(y, 0, "1");
            y.advance(age - 1);
            y.set(PrintSpooler.PRIORITY, 6);
            Check.submit(y, 0, "1");
            y.addPrinter(5, 20, 0);
            y.fill(0, 0, 9);
            y.setRules(2, 1000);
            y.advance(1);
            // its rank is 50 + age / 2, that of the other 60
            check.due("a job that waited for " + age + " ticks against 60", y.printer(0, 4), age < 20 ? 1 : 0);
        }
        for (int age = 21; age <= 22; age++) {
            PrintSpooler z = Make.document(4, 0);
            z.set(PrintSpooler.PRIORITY, 6);
            Check.submit(z, 0, "1");
            z.set(PrintSpooler.PRIORITY, 5);
            Check.submit(z, 0, "1");
            z.advance(age - 1);
            z.hold(0);
            z.release(0);
            z.addPrinter(5, 20, 0);
            z.fill(0, 0, 9);
            z.setRules(2, 1000);
            z.advance(1);
            check.due("a later job that waited for " + age + " ticks against 60", z.printer(0, 4), age < 22 ? 0 : 1);
        }
    }

    private static void idlePrinters(Check check) {
        check.says(0, STEP_THREE);
        PrintSpooler x = Make.document(4, 0);
        x.addPrinter(9, 20, 0);
        x.addPrinter(5, 20, 0);
        x.addPrinter(5, 20, 0);
        x.jam(2);
        for (int printer = 0; printer <= 2; printer++) {
            x.fill(printer, 0, 9);
        }
        Check.submit(x, 0, "1");
        Check.submit(x, 0, "2");
        Check.submit(x, 0, "3");
        x.advance(1);
        check.due("printer 0", x.printer(0, 4), 0);
        check.due("printer 1", x.printer(1, 4), 1);
        check.due("printer 2 is JAMMED", x.printer(2, 4), -6);
        x.advance(7);
        check.due("printer 1", x.printer(1, 4), 2);
        x.advance(7);
        int[][] due = {{8, 1, 1, 0}, {12, 0, 0, 0}, {15, 1, 2, 0}};
        for (int number = 0; number < 3; number++) {
            for (int what = 0; what < 4; what++) {
                check.due("log(" + number + "," + what + ")", x.log(number, what), due[number][what]);
            }
        }
        PrintSpooler y = Make.document(4, 0);
        y.addPrinter(5, 20, 0);
        y.addPrinter(5, 20, 1);
        y.fill(0, 0, 9);
        y.fill(1, 0, 9);
        y.set(PrintSpooler.PRIORITY, 9);
        y.set(PrintSpooler.SIDES, 2);
        Check.submit(y, 0, "*");
        y.set(PrintSpooler.PRIORITY, 0);
        y.set(PrintSpooler.SIDES, 0);
        Check.submit(y, 0, "*");
        y.advance(1);
        check.due("the best that printer 0 can print", y.printer(0, 4), 1);
        check.due("the best that printer 1 can print", y.printer(1, 4), 0);
    }

    private static void log(Check check) {
        check.says(30, "Returns a property of a printed sheet.");
        PrintSpooler x = Make.printing("2");
        x.addPrinter(5, 20, 0);
        x.fill(1, 0, 9);
        x.jam(0);
        x.advance(8);
        Check.submit(x, 0, "1-2");
        x.advance(15);
        check.says(30, "`number`: number of the printed sheet, from 0 for the first one that was printed");
        int[][] due = {{8, 1, 0, 0}, {16, 1, 1, 0}, {23, 1, 1, 1}};
        for (int number = 0; number <= 2; number++) {
            check.due("the time of log " + number, x.log(number, 0), due[number][0]);
        }
        check.says(30, "`what`: 0 for the time, 1 for the printer, 2 for the job, 3 for the sheet");
        for (int number = 0; number <= 2; number++) {
            for (int what = 0; what <= 3; what++) {
                check.due("log(" + number + "," + what + ")", x.log(number, what), due[number][what]);
            }
        }
    }

    private static void logErrors(Check check) {
        check.says(30, "Returns the property, or NONE if there is no such printed sheet or it is not one of the latest 100; "
            + "BAD_VALUE if what is not 0 to 3.");
        PrintSpooler x = Make.printed(0);
        check.due("the empty log", x.log(0, 0), -6);
        check.due("the empty log, no what", x.log(0, 4), -2);
        check.due("log(-1,0)", x.log(-1, 0), -6);
        x.advance(2);
        check.due("a sheet that is being printed", x.log(0, 0), -6);
        x.advance(1);
        check.due("a printed sheet", x.log(0, 0), 3);
        int[] noNumbers = {-1, 1, -100, 100, LEAST, GREATEST};
        int[] noWhats = {-1, 4, LEAST, GREATEST};
        for (int number : noNumbers) {
            check.due("log(" + number + ",0)", x.log(number, 0), -6);
            for (int what : noWhats) {
                check.due("log(" + number + "," + what + ")", x.log(number, what), -2);
            }
        }
        for (int what : noWhats) {
            check.due("log(0," + what + ")", x.log(0, what), -2);
        }
    }

    /** Sheet n of the job ends at time 3 + 2 * n. */
    private static void latest(Check check) {
        check.says(0, LATEST);
        int[] totals = {1, 2, 99, 100, 101, 150, 199, 200, 201, 250, 300, 301, 499};
        for (int total : totals) {
            PrintSpooler x = Make.printed(total);
            String name = total + " printed sheets: ";
            check.due(name + "count(4)", x.count(4), total);
            int oldest = Math.max(0, total - 100);
            int[] kept = {oldest, Math.min(oldest + 1, total - 1), (oldest + total) / 2, total - 1};
            for (int number : kept) {
                check.due(name + "time of " + number, x.log(number, 0), 3 + 2 * number);
                check.due(name + "printer of " + number, x.log(number, 1), 0);
                check.due(name + "job of " + number, x.log(number, 2), 0);
                check.due(name + "sheet of " + number, x.log(number, 3), number);
            }
            int[] gone = {oldest - 1, oldest - 99, oldest - 100, total, total + 1, total + 99, total + 100};
            for (int number : gone) {
                for (int what = 0; what <= 3; what++) {
                    check.due(name + "log(" + number + "," + what + ")", x.log(number, what), -6);
                }
                check.due(name + "log(" + number + ",4)", x.log(number, 4), -2);
            }
        }
        for (int total = 99; total <= 201; total += 51) {
            PrintSpooler y = Make.printed(total);
            for (int number = 0; number < total; number++) {
                boolean kept = number >= total - 100;
                check.due("all of " + total + ": " + number, y.log(number, 3), kept ? number : -6);
            }
        }
    }

    private static void printed(Check check) {
        check.says(31, "Returns the number of printed sheets of a user.");
        PrintSpooler x = Make.printing("-3");
        x.set(PrintSpooler.USER, 5);
        Check.submit(x, 0, "*");
        for (int user = 0; user <= 5; user++) {
            check.due("printed(" + user + ")", x.printed(user), 0);
        }
        x.advance(8);
        check.due("printed(0)", x.printed(0), 1);
        x.advance(22);
        check.says(31, "`user`: the user");
        int[] due = {3, 0, 0, 0, 0, 1};
        for (int user = 0; user <= 5; user++) {
            check.due("printed(" + user + ")", x.printed(user), due[user]);
        }
        check.says(31, "Returns the number; NO_SUCH if there is no such user.");
        int[] noUsers = {-1, 6, LEAST, GREATEST};
        for (int user : noUsers) {
            check.due("printed(" + user + ")", x.printed(user), -1);
        }
        check.says(0, "Documents, jobs, printers and sheets are numbered from 0, users are 0 to 5.");
        check.due("printed(0)", x.printed(0), 3);
        check.due("printed(5)", x.printed(5), 1);
        check.due("printed(6)", x.printed(6), -1);
        check.due("document 0", x.weight(0, 1), 13);
        check.due("job 0", x.about(0, 7), 3);
        check.due("sheet 0 of job 0", x.page(0, 0, 0, 0), 1);
        check.due("printer 0", x.printer(0, 3), 1);
    }
}
