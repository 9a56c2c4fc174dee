/** Promises 32 to 34: forecasts, which change nothing and come true. */
public final class ForecastTest {
    public static void main(String[] args) {
        Check check = new Check();
        finishing(check);
        urgencies(check);
        urgencyEdges(check);
        finishers(check);
        allFinishers(check);
        repeated(check);
        unchanged(check);
        check.end();
    }

    private static void finishing(Check check) {
        check.promise(32);
        PrintSpooler x = TimeTest.printing("*");
        check.due("finish(1,0)", x.finish(1, 0), -1);
        check.due("finish(-1,1)", x.finish(-1, 1), -1);
        check.due("finish(0,0)", x.finish(0, 0), -2);
        check.due("finish(0,3001)", x.finish(0, 3001), -2);
        check.due("finish(0,3000)", x.finish(0, 3000), 29);
        check.due("finish(0,29)", x.finish(0, 29), 29);
        check.due("finish(0,28)", x.finish(0, 28), -6);
        x.advance(10);
        check.due("finish(0,19)", x.finish(0, 19), 19);
        x.hold(0);
        check.due("with a request", x.finish(0, 3000), -6);
        x.release(0);
        x.jam(0);
        check.due("jammed", x.finish(0, 3000), -6);
        x.clear(0);
        check.due("three sheets are left", x.finish(0, 3000), 22);
        x.advance(22);
        check.due("DONE already", x.finish(0, 1), 0);
        check.due("DONE already, bad limit", x.finish(0, 0), -2);
        Check.submit(x, 0, "1");
        x.cancel(1);
        check.due("CANCELED", x.finish(1, 100), -6);
    }

    private static void urgencies(Check check) {
        check.promise(33);
        PrintSpooler x = new PrintSpooler();
        x.addDocument(4, 0, 13, 0, 1);
        x.addPrinter(5, 20, 0);
        x.fill(0, 0, 20);
        x.set(PrintSpooler.PRIORITY, 3);
        Check.submit(x, 0, "1");
        x.set(PrintSpooler.PRIORITY, 6);
        Check.submit(x, 0, "1");
        x.set(PrintSpooler.PRIORITY, 0);
        Check.submit(x, 0, "1");
        check.due("urgency(3,0)", x.urgency(3, 0), -1);
        check.due("urgency(-1,1)", x.urgency(-1, 1), -1);
        check.due("urgency(0,0)", x.urgency(0, 0), -2);
        check.due("urgency(0,1001)", x.urgency(0, 1001), -2);
        check.due("first", x.urgency(2, 8), 7);
        check.due("second", x.urgency(2, 15), 4);
        check.due("third", x.urgency(2, 22), 0);
        check.due("never", x.urgency(2, 7), -6);
        check.due("of equal ranks the lowest number", x.urgency(0, 8), 6);
        check.due("the priority stays", x.about(2, 4), 0);
        x.hold(1);
        check.due("HELD", x.urgency(1, 1000), -6);
        x.cancel(1);
        check.due("CANCELED, bad ticks", x.urgency(1, 0), -2);
        check.due("CANCELED", x.urgency(1, 5), -5);
        x.advance(8);
        check.due("DONE", x.urgency(0, 5), -5);
    }

    /** The greatest priority is tried, and none beyond it. */
    private static void urgencyEdges(Check check) {
        check.promise(33);
        PrintSpooler x = TimeTest.printing("1");
        x.set(PrintSpooler.PRIORITY, 8);
        Check.submit(x, 0, "1");
        check.due("8 and a lower number", x.urgency(0, 8), 8);
        x.promote(1, 9);
        check.due("9 and a lower number", x.urgency(0, 8), 9);
        check.due("a higher number", x.urgency(1, 8), 6);
        x.promote(0, 9);
        check.due("9 against 9", x.urgency(1, 8), -6);
        check.due("one tick", x.urgency(1, 1), -6);
        x.advance(7);
        check.due("one tick", x.urgency(0, 1), 0);
    }

    private static void allFinishers(Check check) {
        check.promise(34);
        PrintSpooler x = TimeTest.printing("1");
        x.fill(0, 0, 300);
        for (int job = 1; job < 24; job++) {
            Check.submit(x, 0, "1");
        }
        check.due("the last of 24", x.finisher(23, 1 + 24 * 7), 23);
        check.due("a tick less", x.finisher(23, 24 * 7), -6);
        check.due("finisher(24,3000)", x.finisher(24, 3000), -6);
        x.advance(1 + 23 * 7);
        check.due("one is left", x.finisher(0, 7), 23);
        check.due("no more", x.finisher(1, 3000), -6);
    }

    /** Forecasts leave nothing behind for later ones, nor does a past that was undone. */
    private static void repeated(Check check) {
        check.promise(34);
        PrintSpooler x = TimeTest.printing("1");
        Check.submit(x, 0, "1");
        x.save(0);
        for (int i = 0; i < 40; i++) {
            check.due("finisher(1,15)", x.finisher(1, 15), 1);
            x.advance(8);
            check.due("finisher(0,15)", x.finisher(0, 15), 1);
            x.advance(8);
            check.due("finisher(0,15)", x.finisher(0, 15), -6);
            x.restore(0);
        }
    }

    private static void finishers(Check check) {
        check.promise(34);
        PrintSpooler x = new PrintSpooler();
        check.due("finisher(-1,0)", x.finisher(-1, 0), -2);
        check.due("finisher(0,3001)", x.finisher(0, 3001), -2);
        check.due("finisher(0,1)", x.finisher(0, 1), -6);
        x.addDocument(4, 0, 13, 0, 1);
        x.addPrinter(5, 20, 0);
        x.addPrinter(5, 20, 0);
        x.fill(0, 0, 20);
        x.fill(1, 0, 20);
        int[] priorities = {3, 4, 6, 5};
        for (int priority : priorities) {
            x.set(PrintSpooler.PRIORITY, priority);
            Check.submit(x, 0, "1");
        }
        int[] order = {2, 3, 1, 0};
        for (int i = 0; i < 4; i++) {
            check.due("finisher(" + i + ",15)", x.finisher(i, 15), order[i]);
        }
        check.due("finisher(4,3000)", x.finisher(4, 3000), -6);
        check.due("finisher(-1,15)", x.finisher(-1, 15), -6);
        check.due("finisher(greatest,15)", x.finisher(Integer.MAX_VALUE, 15), -6);
        check.due("finisher(1,8)", x.finisher(1, 8), 3);
        check.due("finisher(2,14)", x.finisher(2, 14), -6);
        x.advance(8);
        check.due("from now on", x.finisher(0, 7), 1);
        check.due("from now on", x.finisher(1, 7), 0);
        check.due("from now on", x.finisher(2, 7), -6);
    }

    /** A forecast leaves all that can be asked for as it was. */
    private static void unchanged(Check check) {
        check.promise(32);
        PrintSpooler x = TimeTest.printing("*");
        Check.submit(x, 0, "2-3");
        x.advance(3);
        x.cancel(0);
        Check.text(x, "1-");
        String before = SavingTest.everything(x);
        x.finish(1, 3000);
        x.urgency(1, 1000);
        x.finisher(1, 3000);
        check.due("everything", SavingTest.everything(x), before);
    }
}
