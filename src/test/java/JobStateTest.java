/** Promises 24 to 28: hold, release, cancel, jam and clear; and which jobs are printable. */
public final class JobStateTest {
    private static final int[] NO_JOBS = {-1, 1, 23, 24, Integer.MIN_VALUE, Integer.MAX_VALUE};
    private static final int[] NO_PRINTERS = {-1, 1, 2, 3, Integer.MIN_VALUE, Integer.MAX_VALUE};
    private static final String JAM = "A jam loses the sheet that is being printed: the job becomes WAITING, or HELD or "
        + "CANCELED if there is such a request (there is none any more then); its next sheet stays.";

    public static void main(String[] args) {
        Check check = new Check();
        states(check);
        printable(check);
        holding(check);
        holdErrors(check);
        releasing(check);
        releaseErrors(check);
        canceling(check);
        cancelErrors(check);
        jams(check);
        jamsWithRequests(check);
        jamErrors(check);
        recovery(check);
        clearing(check);
        check.end();
    }

    private static void states(Check check) {
        check.says(0, "A job is WAITING (initially), PRINTING, HELD, DONE or CANCELED.");
        PrintSpooler x = Make.printing("1");
        check.due("WAITING", x.about(0, 9), PrintSpooler.WAITING);
        x.hold(0);
        check.due("HELD", x.about(0, 9), PrintSpooler.HELD);
        x.release(0);
        x.advance(1);
        check.due("PRINTING", x.about(0, 9), PrintSpooler.PRINTING);
        x.advance(7);
        check.due("DONE", x.about(0, 9), PrintSpooler.DONE);
        Check.submit(x, 0, "1");
        x.cancel(1);
        check.due("CANCELED", x.about(1, 9), PrintSpooler.CANCELED);
        check.says(0, "It has a next sheet, which is 0 initially, a start of waiting, which is the time at which it became "
            + "WAITING most recently, and a request, which is none initially, or that it be held, or canceled.");
        PrintSpooler y = Make.printing("*");
        y.setRules(1, 1000);
        check.due("next sheet", y.about(0, 10), 0);
        y.advance(1);
        check.due("no request", y.release(0), -5);
        y.advance(7);
        y.jam(0);
        y.advance(3);
        check.due("since the jam at time 8", y.about(0, 11), 53);
        y.hold(0);
        y.advance(3);
        y.release(0);
        check.due("since its release at time 14", y.about(0, 11), 50);
        y.promote(0, 4);
        y.clear(0);
        check.due("neither starts the waiting again", y.about(0, 11), 40);
        y.advance(1);
        check.due("PRINTING", y.about(0, 9), 1);
        check.due("next sheet", y.about(0, 10), 1);
    }

    /** Starts a job of user 2 with SIDES, LAYOUT and paper size; answers whether it prints after a tick. */
    private static int starts(int sides, int layout, int size, int both) {
        PrintSpooler x = Make.document(4, size);
        x.addPrinter(5, 20, both);
        x.fill(0, size, 1);
        x.set(PrintSpooler.SIDES, sides);
        x.set(PrintSpooler.LAYOUT, layout);
        Check.submit(x, 0, "1");
        x.advance(1);
        return x.about(0, 9);
    }

    private static void printable(Check check) {
        check.says(0, "A job is printable on a printer if it is WAITING,");
        PrintSpooler x = Make.printing("*");
        x.hold(0);
        x.advance(1);
        check.due("HELD", x.about(0, 9), 2);
        x.cancel(0);
        x.advance(1);
        check.due("CANCELED", x.about(0, 9), 4);
        PrintSpooler y = Make.printing("*");
        y.advance(1);
        y.addPrinter(5, 20, 0);
        y.fill(1, 0, 9);
        y.advance(1);
        check.due("PRINTING on another printer", y.printer(1, 3), 0);
        check.says(0, "the tray of the printer for the paper size of its document is not empty,");
        for (int size = 0; size <= 2; size++) {
            PrintSpooler z = Make.document(4, size);
            z.addPrinter(5, 20, 0);
            for (int other = 0; other <= 2; other++) {
                z.fill(0, other, other == size ? 0 : 500);
            }
            Check.submit(z, 0, "1");
            z.advance(1);
            check.due("the tray is empty", z.about(0, 9), 0);
            z.fill(0, size, 1);
            z.advance(1);
            check.due("a sheet in the tray", z.about(0, 9), 1);
        }
        check.says(0, "the printer can print on both sides or the job is one-sided (a booklet is not),");
        for (int both = 0; both <= 1; both++) {
            check.due("one-sided", starts(0, 4, 0, both), 1);
            check.due("long edge", starts(1, 1, 0, both), both);
            check.due("short edge", starts(2, 1, 0, both), both);
            check.due("long edge of paper size 2", starts(1, 1, 2, both), 1);
            check.due("a booklet", starts(0, 0, 0, both), both);
            check.due("a booklet, long edge", starts(1, 0, 1, both), both);
        }
    }

    private static void holding(Check check) {
        check.says(24, "Holds a job: a WAITING job becomes HELD; for a PRINTING job, this is a request, in place of another "
            + "request.");
        PrintSpooler x = Make.printing("*");
        check.due("WAITING", x.hold(0), 2);
        check.due("HELD", x.about(0, 9), 2);
        x.advance(50);
        check.due("nothing is printed", x.count(4), 0);
        x.release(0);
        x.advance(1);
        check.due("PRINTING", x.hold(0), 1);
        check.due("PRINTING, again", x.hold(0), 1);
        x.advance(6);
        check.due("still PRINTING", x.about(0, 9), 1);
        x.advance(1);
        check.due("HELD after the sheet", x.about(0, 9), 2);
        check.due("one sheet", x.about(0, 10), 1);
        check.due("the printer is IDLE", x.printer(0, 3), 0);
        x.release(0);
        x.advance(1);
        x.cancel(0);
        check.due("in place of cancel", x.hold(0), 1);
        x.advance(7);
        check.due("HELD", x.about(0, 9), 2);
        check.says(24, "`job`: the job");
        Check.submit(x, 0, "1");
        check.due("another job", x.hold(1), 2);
        check.says(24, "Returns the state of the job then; NO_SUCH if there is no such job; NOT_POSSIBLE if it is HELD, "
            + "DONE or CANCELED.");
        x.release(1);
        check.due("HELD", x.hold(1), 2);
        x.release(1);
        x.advance(1);
        check.due("PRINTING", x.hold(1), 1);
        x.advance(7);
        check.due("DONE before the request", x.about(1, 9), 3);
    }

    private static void holdErrors(Check check) {
        check.says(24, "Returns the state of the job then; NO_SUCH if there is no such job; NOT_POSSIBLE if it is HELD, "
            + "DONE or CANCELED.");
        PrintSpooler x = Make.printing("1");
        for (int job : NO_JOBS) {
            check.due("hold(" + job + ")", x.hold(job), -1);
        }
        x.hold(0);
        check.due("HELD", x.hold(0), -5);
        x.release(0);
        x.advance(8);
        check.due("DONE", x.hold(0), -5);
        check.due("still DONE", x.about(0, 9), 3);
        Check.submit(x, 0, "1");
        x.cancel(1);
        check.due("CANCELED", x.hold(1), -5);
        check.due("still CANCELED", x.about(1, 9), 4);
    }

    private static void releasing(Check check) {
        check.says(25, "Releases a job: a HELD job becomes WAITING; a PRINTING job has no request any more.");
        PrintSpooler x = Make.printing("*");
        x.hold(0);
        x.setRules(1, 1000);
        x.advance(10);
        check.due("HELD", x.release(0), 0);
        check.due("WAITING", x.about(0, 9), 0);
        check.due("it waits from now on", x.about(0, 11), 50);
        x.advance(1);
        x.hold(0);
        check.due("a request to hold", x.release(0), 1);
        x.cancel(0);
        check.due("a request to cancel", x.release(0), 1);
        x.advance(7);
        check.due("it goes on", x.about(0, 9), 1);
        check.due("next sheet", x.about(0, 10), 1);
        check.says(25, "`job`: the job");
        Check.submit(x, 0, "1");
        x.hold(1);
        check.due("another job", x.release(1), 0);
    }

    private static void releaseErrors(Check check) {
        check.says(25, "Returns the state of the job then; NO_SUCH if there is no such job; NOT_POSSIBLE if it is WAITING, "
            + "DONE or CANCELED, or PRINTING without a request.");
        PrintSpooler x = Make.printing("1");
        for (int job : NO_JOBS) {
            check.due("release(" + job + ")", x.release(job), -1);
        }
        x.advance(0);
        check.due("WAITING", x.release(0), -5);
        x.advance(1);
        check.due("PRINTING without a request", x.release(0), -5);
        x.hold(0);
        check.due("PRINTING with a request", x.release(0), 1);
        check.due("there is none any more", x.release(0), -5);
        x.hold(0);
        x.advance(7);
        check.due("DONE", x.release(0), -5);
        check.due("still DONE", x.about(0, 9), 3);
        Check.submit(x, 0, "1");
        x.cancel(1);
        check.due("CANCELED", x.release(1), -5);
        check.due("still CANCELED", x.about(1, 9), 4);
        Check.submit(x, 0, "1");
        x.setRules(1, 0);
        x.jam(0);
        x.advance(5);
        check.due("WAITING", x.release(2), -5);
        check.due("it waits as long as before", x.about(2, 11), 55);
    }

    private static void canceling(Check check) {
        check.says(26, "Cancels a job: a WAITING or HELD job becomes CANCELED; for a PRINTING job, this is a request, in "
            + "place of another request.");
        PrintSpooler x = Make.printing("*");
        check.due("WAITING", x.cancel(0), 4);
        check.due("CANCELED", x.about(0, 9), 4);
        Check.submit(x, 0, "*");
        x.hold(1);
        check.due("HELD", x.cancel(1), 4);
        check.due("CANCELED", x.about(1, 9), 4);
        Check.submit(x, 0, "*");
        x.advance(1);
        check.due("PRINTING", x.cancel(2), 1);
        check.due("PRINTING, again", x.cancel(2), 1);
        x.advance(6);
        check.due("still PRINTING", x.about(2, 9), 1);
        x.advance(1);
        check.due("CANCELED after the sheet", x.about(2, 9), 4);
        check.due("its sheet is printed", x.about(2, 10), 1);
        Check.submit(x, 0, "*");
        x.advance(1);
        x.hold(3);
        check.due("in place of hold", x.cancel(3), 1);
        x.advance(7);
        check.due("CANCELED", x.about(3, 9), 4);
        check.says(26, "`job`: the job");
        Check.submit(x, 0, "*");
        Check.submit(x, 0, "*");
        check.due("another job", x.cancel(5), 4);
        check.due("the one before it", x.about(4, 9), 0);
    }

    private static void cancelErrors(Check check) {
        check.says(26, "Returns the state of the job then; NO_SUCH if there is no such job; NOT_POSSIBLE if it is DONE or "
            + "CANCELED.");
        PrintSpooler x = Make.printing("1");
        for (int job : NO_JOBS) {
            check.due("cancel(" + job + ")", x.cancel(job), -1);
        }
        x.advance(1);
        check.due("PRINTING the last sheet", x.cancel(0), 1);
        x.advance(7);
        check.due("DONE before the request", x.about(0, 9), 3);
        check.due("DONE", x.cancel(0), -5);
        check.due("still DONE", x.about(0, 9), 3);
        Check.submit(x, 0, "1");
        x.cancel(1);
        check.due("CANCELED", x.cancel(1), -5);
    }

    private static void jams(Check check) {
        check.says(27, "Makes a printer JAMMED.");
        PrintSpooler x = Make.printing("*");
        x.addPrinter(5, 20, 0);
        check.due("IDLE", x.jam(1), 0);
        check.due("JAMMED", x.printer(1, 3), 2);
        check.due("no sheet is lost", x.printer(1, 6), 0);
        check.due("the other printer", x.printer(0, 3), 0);
        check.says(0, JAM);
        x.setRules(1, 1000);
        x.advance(10);
        check.due("PRINTING", x.jam(0), 1);
        check.due("the job waits", x.about(0, 9), 0);
        check.due("from now on", x.about(0, 11), 50);
        check.due("its next sheet stays", x.about(0, 10), 1);
        check.due("the sheet is gone", x.printer(0, 0), 18);
        check.due("lost sheets", x.printer(0, 6), 1);
        check.due("printed sheets", x.count(4), 1);
        check.due("printed sheets of the user", x.printed(0), 1);
        check.due("none of it is in the log", x.log(1, 0), -6);
        check.says(27, "Returns 1 if a sheet was lost, 0 if not; NO_SUCH if there is no such printer; NOT_POSSIBLE if it "
            + "is JAMMED.");
        x.fill(1, 0, 9);
        x.advance(50);
        check.due("nothing is printed on JAMMED printers", x.count(4), 1);
        x.clear(0);
        check.due("IDLE with a job waiting", x.jam(0), 0);
        check.due("lost sheets", x.printer(0, 6), 1);
        x.clear(1);
        x.advance(1);
        check.due("the job moves on", x.printer(1, 4), 0);
        check.says(27, "`printer`: the printer");
        check.due("printer 1", x.jam(1), 1);
        check.due("its lost sheets", x.printer(1, 6), 1);
        check.due("lost sheets of the other", x.printer(0, 6), 1);
    }

    private static void jamsWithRequests(Check check) {
        check.says(0, JAM);
        PrintSpooler x = Make.printing("*");
        x.advance(1);
        x.hold(0);
        check.due("jam(0)", x.jam(0), 1);
        check.due("HELD", x.about(0, 9), 2);
        check.due("next sheet", x.about(0, 10), 0);
        x.clear(0);
        check.due("released", x.release(0), 0);
        x.advance(1);
        check.due("the request is gone", x.release(0), -5);
        x.advance(7);
        check.due("it goes on", x.about(0, 9), 1);
        x.cancel(0);
        check.due("jam(0)", x.jam(0), 1);
        check.due("CANCELED", x.about(0, 9), 4);
        check.due("next sheet", x.about(0, 10), 1);
        PrintSpooler y = Make.printing("1");
        y.advance(1);
        y.cancel(0);
        y.jam(0);
        check.due("CANCELED at its last sheet", y.about(0, 9), 4);
        PrintSpooler z = Make.printing("*");
        z.advance(1);
        z.hold(0);
        z.release(0);
        z.jam(0);
        check.due("without the request any more", z.about(0, 9), 0);
    }

    private static void jamErrors(Check check) {
        check.says(27, "Returns 1 if a sheet was lost, 0 if not; NO_SUCH if there is no such printer; NOT_POSSIBLE if it "
            + "is JAMMED.");
        PrintSpooler x = Make.printing("*");
        for (int printer : NO_PRINTERS) {
            check.due("jam(" + printer + ")", x.jam(printer), -1);
        }
        x.advance(7);
        check.due("a tick before the sheet is printed", x.jam(0), 1);
        check.due("JAMMED", x.jam(0), -5);
        check.due("lost sheets", x.printer(0, 6), 1);
        x.clear(0);
        check.due("at once again", x.jam(0), 0);
        x.clear(0);
        x.advance(1 + 4 * 7);
        check.due("all is printed", x.about(0, 9), 3);
        check.due("IDLE after it", x.jam(0), 0);
    }

    /** No page is lost or repeated. */
    private static void recovery(Check check) {
        check.says(0, JAM);
        PrintSpooler x = Make.printing("*");
        int lost = 0;
        for (int i = 0; i < 11; i++) {
            x.advance(3 + i);
            lost += x.jam(0);
            x.clear(0);
        }
        x.advance(100);
        check.due("DONE", x.about(0, 9), 3);
        check.due("printed sheets", x.count(4), 4);
        check.due("printed sheets of the user", x.printed(0), 4);
        for (int sheet = 0; sheet < 4; sheet++) {
            check.due("the sheet of log " + sheet, x.log(sheet, 3), sheet);
        }
        check.due("lost sheets", x.printer(0, 6), lost);
        check.due("sheets left", x.printer(0, 0), 20 - 4 - lost);
    }

    private static void clearing(Check check) {
        check.says(28, "Makes a JAMMED printer IDLE.");
        PrintSpooler x = Make.printing("*");
        x.advance(1);
        x.jam(0);
        x.clear(0);
        check.due("it is IDLE", x.printer(0, 3), 0);
        check.due("the job waits", x.about(0, 9), 0);
        x.advance(1);
        check.due("it prints", x.printer(0, 3), 1);
        check.says(28, "Returns 1; NO_SUCH if there is no such printer; NOT_POSSIBLE if it is not JAMMED.");
        for (int printer : NO_PRINTERS) {
            check.due("clear(" + printer + ")", x.clear(printer), -1);
        }
        check.due("PRINTING", x.clear(0), -5);
        check.due("it prints on", x.printer(0, 3), 1);
        x.jam(0);
        check.due("JAMMED", x.clear(0), 1);
        check.due("IDLE", x.clear(0), -5);
        check.says(28, "`printer`: the printer");
        x.addPrinter(5, 20, 0);
        check.due("printer 1", x.clear(1), -5);
        x.jam(1);
        check.due("printer 1", x.clear(1), 1);
    }
}
