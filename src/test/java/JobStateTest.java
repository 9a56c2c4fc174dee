/** Promises 24 to 28: hold, release, cancel, jam and clear. */
public final class JobStateTest {
    public static void main(String[] args) {
        Check check = new Check();
        holding(check);
        releasing(check);
        canceling(check);
        jams(check);
        jamsWithRequests(check);
        clearing(check);
        check.end();
    }

    private static void holding(Check check) {
        check.promise(24);
        PrintSpooler x = TimeTest.printing("*");
        check.due("hold(1)", x.hold(1), -1);
        check.due("hold(-1)", x.hold(-1), -1);
        check.due("WAITING", x.hold(0), 2);
        check.due("HELD", x.hold(0), -5);
        x.advance(50);
        check.due("nothing is printed", x.count(4), 0);
        x.release(0);
        x.advance(1);
        check.due("PRINTING", x.hold(0), 1);
        check.due("PRINTING, again", x.hold(0), 1);
        x.advance(6);
        check.due("still PRINTING", x.about(0, 9), 1);
        x.advance(1);
        check.due("HELD after the sheet", x.about(0, 9), 2);
        check.due("one sheet", x.about(0, 10), 1);
        check.due("the printer is IDLE", x.printer(0, 3), 0);
        x.cancel(0);
        check.due("CANCELED", x.hold(0), -5);
        Check.submit(x, 0, "1");
        x.advance(1);
        x.hold(1);
        x.advance(7);
        check.due("DONE before the request", x.about(1, 9), 3);
        check.due("DONE", x.hold(1), -5);
    }

    private static void releasing(Check check) {
        check.promise(25);
        PrintSpooler x = TimeTest.printing("*");
        check.due("release(1)", x.release(1), -1);
        check.due("release(-1)", x.release(-1), -1);
        check.due("WAITING", x.release(0), -5);
        x.hold(0);
        x.setRules(1, 1000);
        x.advance(10);
        check.due("HELD", x.release(0), 0);
        check.due("it waits from now on", x.about(0, 11), 50);
        x.advance(1);
        check.due("PRINTING without a request", x.release(0), -5);
        x.hold(0);
        check.due("PRINTING with a request", x.release(0), 1);
        check.due("there is none any more", x.release(0), -5);
        x.cancel(0);
        check.due("PRINTING with a request", x.release(0), 1);
        x.advance(7);
        check.due("it goes on", x.about(0, 9), 1);
        x.advance(100);
        check.due("DONE", x.release(0), -5);
        Check.submit(x, 0, "1");
        x.cancel(1);
        check.due("CANCELED", x.release(1), -5);
    }

    private static void canceling(Check check) {
        check.promise(26);
        PrintSpooler x = TimeTest.printing("*");
        check.due("cancel(1)", x.cancel(1), -1);
        check.due("cancel(-1)", x.cancel(-1), -1);
        x.advance(1);
        check.due("PRINTING", x.cancel(0), 1);
        check.due("in place of it", x.hold(0), 1);
        x.advance(7);
        check.due("HELD", x.about(0, 9), 2);
        check.due("HELD", x.cancel(0), 4);
        check.due("CANCELED", x.cancel(0), -5);
        Check.submit(x, 0, "*");
        check.due("WAITING", x.cancel(1), 4);
        Check.submit(x, 0, "*");
        x.advance(1);
        x.hold(2);
        check.due("in place of it", x.cancel(2), 1);
        x.advance(7);
        check.due("CANCELED after the sheet", x.about(2, 9), 4);
        Check.submit(x, 0, "1");
        x.advance(10);
        check.due("DONE", x.cancel(3), -5);
    }

    private static void jams(Check check) {
        check.promise(27);
        PrintSpooler x = TimeTest.printing("*");
        check.due("jam(1)", x.jam(1), -1);
        check.due("jam(-1)", x.jam(-1), -1);
        x.setRules(1, 1000);
        x.advance(10);
        check.due("PRINTING", x.jam(0), 1);
        check.due("JAMMED", x.jam(0), -5);
        check.due("the job waits", x.about(0, 9), 0);
        check.due("from now on", x.about(0, 11), 50);
        check.due("its next sheet stays", x.about(0, 10), 1);
        check.due("the sheet is gone", x.printer(0, 0), 18);
        check.due("lost sheets", x.printer(0, 6), 1);
        check.due("printed sheets", x.count(4), 1);
        x.advance(50);
        check.due("nothing is printed", x.count(4), 1);
        x.clear(0);
        check.due("IDLE", x.jam(0), 0);
        check.due("lost sheets", x.printer(0, 6), 1);
        x.clear(0);
        x.advance(100);
        check.due("DONE", x.about(0, 9), 3);
        for (int sheet = 0; sheet < 4; sheet++) {
            check.due("no page is lost or repeated", x.log(sheet, 3), sheet);
        }
        check.due("printed sheets", x.count(4), 4);
        check.due("sheets left", x.printer(0, 0), 15);
    }

    private static void jamsWithRequests(Check check) {
        check.promise(27);
        PrintSpooler x = TimeTest.printing("*");
        x.advance(1);
        x.hold(0);
        check.due("jam(0)", x.jam(0), 1);
        check.due("HELD", x.about(0, 9), 2);
        x.clear(0);
        x.release(0);
        x.advance(8);
        check.due("the request is gone", x.about(0, 9), 1);
        check.due("the request is gone", x.release(0), -5);
        x.cancel(0);
        x.jam(0);
        check.due("CANCELED", x.about(0, 9), 4);
    }

    private static void clearing(Check check) {
        check.promise(28);
        PrintSpooler x = TimeTest.printing("*");
        check.due("clear(1)", x.clear(1), -1);
        check.due("clear(-1)", x.clear(-1), -1);
        check.due("IDLE", x.clear(0), -5);
        x.advance(1);
        check.due("PRINTING", x.clear(0), -5);
        x.jam(0);
        check.due("JAMMED", x.clear(0), 1);
        check.due("it is IDLE", x.printer(0, 3), 0);
        check.due("IDLE", x.clear(0), -5);
        x.advance(1);
        check.due("it prints", x.printer(0, 3), 1);
    }
}
