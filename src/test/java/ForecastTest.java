/** Promises 32 to 34: forecasts, which change nothing and come true. */
public final class ForecastTest {
    private static final int LEAST = Integer.MIN_VALUE, GREATEST = Integer.MAX_VALUE;
    private static final String FINISH_RESULT = "Returns the number of ticks from now, 0 if it is DONE already; NONE if it "
        + "is not DONE after limit ticks; NO_SUCH if there is no such job; BAD_VALUE if limit is out of range.";
    private static final String URGENCY_RESULT = "Returns the smallest priority, 0 to 9, with which, if it were set by "
        + "promote() now, the job would be DONE after that many ticks; NONE if there is none; NO_SUCH if there is no such "
        + "job; BAD_VALUE if ticks is out of range; NOT_POSSIBLE if the job is DONE or CANCELED.";
    private static final String FINISHER_RESULT = "Returns the job, or NONE if fewer jobs become DONE within limit ticks, "
        + "or index is negative; BAD_VALUE if limit is out of range.";

    public static void main(String[] args) {
        Check check = new Check();
        finishing(check);
        finishNever(check);
        finishErrors(check);
        longestFinish(check);
        comesTrue(check);
        urgencies(check);
        urgencyEdges(check);
        urgencyOfTwoPrinters(check);
        urgencyErrors(check);
        longestUrgency(check);
        finishers(check);
        sameTick(check);
        finisherErrors(check);
        allFinishers(check);
        repeated(check);
        unchanged(check);
        check.end();
    }

    private static void finishing(Check check) {
        check.says(32, "Forecasts when a job becomes DONE if nothing but time interferes.");
        PrintSpooler x = Make.printing("*");
        check.due("finish(0,3000)", x.finish(0, 3000), 29);
        check.says(32, FINISH_RESULT);
        check.due("finish(0,30)", x.finish(0, 30), 29);
        check.due("finish(0,29)", x.finish(0, 29), 29);
        check.due("finish(0,28)", x.finish(0, 28), -6);
        check.due("finish(0,1)", x.finish(0, 1), -6);
        x.advance(10);
        check.due("finish(0,19)", x.finish(0, 19), 19);
        check.due("finish(0,18)", x.finish(0, 18), -6);
        x.jam(0);
        x.clear(0);
        check.due("three sheets are left", x.finish(0, 3000), 22);
        x.advance(21);
        check.due("finish(0,1)", x.finish(0, 1), 1);
        x.advance(1);
        check.due("it is DONE", x.about(0, 9), 3);
        check.due("DONE already", x.finish(0, 1), 0);
        check.due("DONE already", x.finish(0, 3000), 0);
        check.says(32, "`job`: the job");
        Check.submit(x, 0, "1");
        check.due("another job", x.finish(1, 8), 8);
        check.due("the first job", x.finish(0, 8), 0);
    }

    private static void finishNever(Check check) {
        check.says(32, "Forecasts when a job becomes DONE if nothing but time interferes.");
        PrintSpooler x = Make.document(4, 0);
        Check.submit(x, 0, "*");
        check.due("without printers", x.finish(0, 3000), -6);
        x.addPrinter(5, 20, 0);
        check.due("without paper", x.finish(0, 3000), -6);
        x.fill(0, 0, 3);
        check.due("with too little paper", x.finish(0, 3000), -6);
        x.fill(0, 0, 1);
        check.due("with as much as it needs", x.finish(0, 3000), 29);
        x.setQuota(0, 3);
        check.due("with too small a quota", x.finish(0, 3000), -6);
        x.setQuota(0, 4);
        check.due("with as much as it needs", x.finish(0, 3000), 29);
        x.hold(0);
        check.due("HELD", x.finish(0, 3000), -6);
        x.release(0);
        x.advance(1);
        x.hold(0);
        check.due("with a request to hold", x.finish(0, 3000), -6);
        x.cancel(0);
        check.due("with a request to cancel", x.finish(0, 3000), -6);
        x.release(0);
        x.fill(0, 0, 1);
        x.jam(0);
        check.due("on a JAMMED printer", x.finish(0, 3000), -6);
        x.cancel(0);
        check.due("CANCELED", x.finish(0, 3000), -6);
        PrintSpooler y = Make.printing("1");
        y.advance(1);
        y.cancel(0);
        check.due("DONE all the same, at its last sheet", y.finish(0, 3000), 7);
    }

    private static void finishErrors(Check check) {
        check.says(32, "`limit`: greatest number of ticks, 1 to 3000");
        PrintSpooler x = Make.printing("1");
        int[] noLimits = {0, -1, 3001, LEAST, GREATEST};
        for (int limit : noLimits) {
            check.due("finish(0," + limit + ")", x.finish(0, limit), -2);
        }
        check.due("finish(0,1)", x.finish(0, 1), -6);
        check.due("finish(0,3000)", x.finish(0, 3000), 8);
        check.says(32, FINISH_RESULT);
        int[] noJobs = {-1, 1, 24, LEAST, GREATEST};
        for (int job : noJobs) {
            check.due("finish(" + job + ",1)", x.finish(job, 1), -1);
            check.due("finish(" + job + ",0)", x.finish(job, 0), -1);
            check.due("finish(" + job + ",3001)", x.finish(job, 3001), -1);
        }
        x.advance(8);
        check.due("DONE, a bad limit", x.finish(0, 0), -2);
        check.due("DONE, a bad limit", x.finish(0, 3001), -2);
        check.due("DONE", x.finish(0, 3000), 0);
    }

    /** 50 sheets of 66 ticks: DONE at time 3301. */
    private static void longestFinish(Check check) {
        check.says(32, "`limit`: greatest number of ticks, 1 to 3000");
        PrintSpooler y = new PrintSpooler();
        y.addDocument(50, 0, 500, 0, 1);
        y.addPrinter(50, 1, 0);
        y.fill(0, 0, 50);
        Check.submit(y, 0, "*");
        y.advance(300);
        check.due("in 3001 ticks", y.finish(0, 3000), -6);
        y.advance(1);
        check.due("in 3000 ticks", y.finish(0, 3000), 3000);
        check.due("not in 2999", y.finish(0, 2999), -6);
        check.due("in 3000 ticks", y.finisher(0, 3000), 0);
        check.due("not in 2999", y.finisher(0, 2999), -6);
    }

    /** The forecast for each job is the time at which it becomes DONE. */
    private static void comesTrue(Check check) {
        check.says(32, "Forecasts when a job becomes DONE if nothing but time interferes.");
        PrintSpooler x = Make.printing("*");
        x.setRules(2, 3);
        x.addPrinter(3, 8, 1);
        x.fill(1, 0, 6);
        for (int job = 1; job < 4; job++) {
            x.set(PrintSpooler.PRIORITY, 3 + job);
            x.set(PrintSpooler.SIDES, job % 3);
            Check.submit(x, 0, "*");
        }
        x.advance(5);
        int[] due = new int[4];
        int[] order = new int[4];
        for (int i = 0; i < 4; i++) {
            due[i] = x.finish(i, 3000);
            order[i] = x.finisher(i, 3000);
        }
        int done = 0;
        for (int tick = 1; tick <= 70; tick++) {
            x.advance(1);
            for (int job = 0; job < 4; job++) {
                boolean isDone = due[job] >= 0 && tick >= due[job];
                check.due("job " + job + " after " + tick + " ticks", x.about(job, 9) == 3 ? 1 : 0, isDone ? 1 : 0);
                if (due[job] == tick) {
                    check.due("finisher(" + done + ",3000)", order[done], job);
                    done++;
                }
            }
        }
        check.due("jobs that are DONE", done, 4);
    }

    private static void urgencies(Check check) {
        check.says(33, "Finds the lowest priority with which a job would become DONE in time.");
        PrintSpooler x = Make.document(4, 0);
        x.addPrinter(5, 20, 0);
        x.fill(0, 0, 20);
        x.set(PrintSpooler.PRIORITY, 3);
        Check.submit(x, 0, "1");
        x.set(PrintSpooler.PRIORITY, 6);
        Check.submit(x, 0, "1");
        x.set(PrintSpooler.PRIORITY, 0);
        Check.submit(x, 0, "1");
        check.due("first", x.urgency(2, 8), 7);
        check.due("second", x.urgency(2, 15), 4);
        check.due("third", x.urgency(2, 22), 0);
        check.due("a tick less than second", x.urgency(2, 14), 7);
        check.due("a tick less than third", x.urgency(2, 21), 4);
        check.due("later than third", x.urgency(2, 23), 0);
        check.says(33, URGENCY_RESULT);
        check.due("never", x.urgency(2, 7), -6);
        check.due("of equal ranks the lowest number", x.urgency(0, 8), 6);
        check.due("the priority stays", x.about(2, 4), 0);
        check.due("the priority stays", x.about(0, 4), 3);
        x.promote(2, 6);
        check.due("first after promote()", x.urgency(0, 8), 6);
        check.due("never second, so first", x.urgency(0, 15), 6);
        check.says(33, "`job`: the job");
        check.due("job 1", x.urgency(1, 8), 6);
    }

    /** The greatest priority is tried, and none beyond it. */
    private static void urgencyEdges(Check check) {
        check.says(33, URGENCY_RESULT);
        PrintSpooler x = Make.printing("1");
        x.set(PrintSpooler.PRIORITY, 8);
        Check.submit(x, 0, "1");
        check.due("8 and a lower number", x.urgency(0, 8), 8);
        x.promote(1, 9);
        check.due("9 and a lower number", x.urgency(0, 8), 9);
        check.due("a higher number", x.urgency(1, 8), 6);
        x.promote(0, 9);
        check.due("9 against 9", x.urgency(1, 8), -6);
        check.due("one tick", x.urgency(1, 1), -6);
        x.advance(7);
        check.due("one tick", x.urgency(0, 1), 0);
        PrintSpooler y = Make.printing("*");
        y.setRules(1000, 20);
        y.advance(1);
        y.set(PrintSpooler.PRIORITY, 6);
        Check.submit(y, 0, "*");
        check.due("the priority of a PRINTING job keeps the other off", y.urgency(0, 28), 4);
        check.due("with a sheet of the other before it", y.urgency(0, 56), 0);
        check.due("the priority stays", y.about(0, 4), 5);
    }

    /** Too great a priority leads to the slower printer. */
    private static void urgencyOfTwoPrinters(Check check) {
        check.says(33, URGENCY_RESULT);
        PrintSpooler x = Make.document(1, 0);
        x.addPrinter(50, 20, 0);
        x.addPrinter(5, 20, 0);
        x.fill(0, 0, 9);
        x.fill(1, 0, 9);
        Check.submit(x, 0, "1");
        Check.submit(x, 0, "1");
        check.due("behind the other", x.urgency(1, 8), 0);
        check.due("it would be later with 9", finishWith(x, 9), 53);
        check.due("and in time with 5", finishWith(x, 5), 8);
        x.set(PrintSpooler.PRIORITY, 3);
        Check.submit(x, 0, "1");
        x.promote(0, 6);
        check.due("before the third, behind the first", x.urgency(1, 8), 3);
        x.promote(2, 9);
        x.promote(0, 9);
        check.due("before the third by its lower number", x.urgency(1, 8), 9);
    }

    private static int finishWith(PrintSpooler x, int priority) {
        int before = x.promote(1, priority);
        int ticks = x.finish(1, 3000);
        x.promote(1, before);
        return ticks;
    }

    private static void urgencyErrors(Check check) {
        check.says(33, "`ticks`: 1 to 1000");
        PrintSpooler x = Make.printing("1");
        int[] noTicks = {0, -1, 1001, LEAST, GREATEST};
        for (int ticks : noTicks) {
            check.due("urgency(0," + ticks + ")", x.urgency(0, ticks), -2);
        }
        check.due("urgency(0,1)", x.urgency(0, 1), -6);
        check.due("urgency(0,1000)", x.urgency(0, 1000), 0);
        check.says(33, URGENCY_RESULT);
        int[] noJobs = {-1, 1, 24, LEAST, GREATEST};
        for (int job : noJobs) {
            check.due("urgency(" + job + ",1)", x.urgency(job, 1), -1);
            check.due("urgency(" + job + ",0)", x.urgency(job, 0), -1);
            check.due("urgency(" + job + ",1001)", x.urgency(job, 1001), -1);
        }
        x.hold(0);
        check.due("HELD", x.urgency(0, 1000), -6);
        x.release(0);
        x.advance(1);
        check.due("PRINTING", x.urgency(0, 7), 0);
        x.advance(7);
        check.due("DONE", x.urgency(0, 5), -5);
        check.due("DONE, bad ticks", x.urgency(0, 0), -2);
        check.due("DONE, bad ticks", x.urgency(0, 1001), -2);
        Check.submit(x, 0, "1");
        x.cancel(1);
        check.due("CANCELED", x.urgency(1, 5), -5);
        check.due("CANCELED, bad ticks", x.urgency(1, 1001), -2);
    }

    /** 500 sheets of two ticks: DONE at time 1001. */
    private static void longestUrgency(Check check) {
        check.says(33, "`ticks`: 1 to 1000");
        PrintSpooler x = new PrintSpooler();
        x.addDocument(250, 0, 1, 0, 1);
        x.addPrinter(1, 20, 0);
        x.fill(0, 0, 500);
        x.set(PrintSpooler.COPIES, 2);
        Check.submit(x, 0, "*");
        check.due("in 1001 ticks", x.urgency(0, 1000), -6);
        check.due("in 1001 ticks", x.finish(0, 1000), -6);
        x.advance(1);
        check.due("in 1000 ticks", x.urgency(0, 1000), 0);
        check.due("not in 999", x.urgency(0, 999), -6);
    }

    private static void finishers(Check check) {
        check.says(34, "Forecasts the order in which jobs become DONE from now on.");
        PrintSpooler x = Make.document(4, 0);
        x.addPrinter(5, 20, 0);
        x.fill(0, 0, 20);
        int[] priorities = {3, 4, 6, 5};
        for (int priority : priorities) {
            x.set(PrintSpooler.PRIORITY, priority);
            Check.submit(x, 0, "1");
        }
        int[] order = {2, 3, 1, 0};
        check.says(34, "`index`: index in this order, from 0");
        for (int i = 0; i < 4; i++) {
            check.due("finisher(" + i + ",29)", x.finisher(i, 29), order[i]);
        }
        check.says(34, FINISHER_RESULT);
        for (int i = 0; i < 4; i++) {
            check.due("as many ticks as it takes", x.finisher(i, 8 + 7 * i), order[i]);
            check.due("a tick less", x.finisher(i, 7 + 7 * i), -6);
        }
        check.due("finisher(4,3000)", x.finisher(4, 3000), -6);
        check.says(34, "Forecasts the order in which jobs become DONE from now on.");
        x.advance(15);
        check.due("from now on", x.finisher(0, 7), 1);
        check.due("from now on", x.finisher(1, 14), 0);
        check.due("from now on", x.finisher(2, 3000), -6);
        x.hold(1);
        check.due("with a request at the last sheet", x.finisher(0, 7), 1);
        x.jam(0);
        check.due("nothing is DONE", x.finisher(0, 3000), -6);
    }

    private static void sameTick(Check check) {
        check.says(34, "Jobs that become DONE in the same tick are ordered by the printers on which they do.");
        PrintSpooler x = Make.document(4, 0);
        int[] priorities = {1, 5, 9};
        for (int printer = 0; printer < 3; printer++) {
            x.addPrinter(5, 20, 0);
            x.fill(printer, 0, 9);
            x.set(PrintSpooler.PRIORITY, priorities[printer]);
            Check.submit(x, 0, "1");
        }
        for (int i = 0; i < 3; i++) {
            check.due("the job of printer " + i, x.finisher(i, 8), 2 - i);
            check.due("a tick less", x.finisher(i, 7), -6);
        }
        x.advance(8);
        for (int i = 0; i < 3; i++) {
            check.due("it came true", x.log(i, 2), 2 - i);
        }
    }

    private static void finisherErrors(Check check) {
        check.says(34, "`limit`: greatest number of ticks, 1 to 3000");
        PrintSpooler x = Make.printing("1");
        int[] noLimits = {0, -1, 3001, LEAST, GREATEST};
        for (int limit : noLimits) {
            check.due("finisher(0," + limit + ")", x.finisher(0, limit), -2);
        }
        check.due("finisher(0,1)", x.finisher(0, 1), -6);
        check.due("finisher(0,3000)", x.finisher(0, 3000), 0);
        check.says(34, FINISHER_RESULT);
        int[] noIndices = {-1, -6, 1, 23, 24, 100, LEAST, GREATEST};
        for (int index : noIndices) {
            check.due("finisher(" + index + ",3000)", x.finisher(index, 3000), -6);
            check.due("finisher(" + index + ",0)", x.finisher(index, 0), -2);
            check.due("finisher(" + index + ",3001)", x.finisher(index, 3001), -2);
        }
        x.advance(8);
        check.due("none is left", x.finisher(0, 3000), -6);
        check.due("none is left", x.finisher(-1, 3000), -6);
    }

    private static void allFinishers(Check check) {
        check.says(34, FINISHER_RESULT);
        PrintSpooler x = Make.printing("1");
        x.fill(0, 0, 300);
        for (int job = 1; job < 24; job++) {
            Check.submit(x, 0, "1");
        }
        check.due("the last of 24", x.finisher(23, 1 + 24 * 7), 23);
        check.due("a tick less", x.finisher(23, 24 * 7), -6);
        check.due("finisher(24,3000)", x.finisher(24, 3000), -6);
        x.advance(1 + 23 * 7);
        check.due("one is left", x.finisher(0, 7), 23);
        check.due("no more", x.finisher(1, 3000), -6);
        x.advance(7);
        check.due("none is left", x.finisher(0, 3000), -6);
    }

    /** Forecasts leave nothing behind for later ones, nor does a past that was undone. */
    private static void repeated(Check check) {
        check.says(34, "Forecasts the order in which jobs become DONE from now on.");
        PrintSpooler x = Make.printing("1");
        Check.submit(x, 0, "1");
        x.save(0);
        for (int i = 0; i < 40; i++) {
            check.due("finisher(1,15)", x.finisher(1, 15), 1);
            x.advance(8);
            check.due("finisher(0,15)", x.finisher(0, 15), 1);
            x.advance(8);
            check.due("finisher(0,15)", x.finisher(0, 15), -6);
            x.restore(0);
        }
    }

    /** A forecast leaves all that can be asked for as it was. */
    private static void unchanged(Check check) {
        check.says(32, "Forecasts when a job becomes DONE if nothing but time interferes.");
        PrintSpooler x = unfinished();
        PrintSpooler y = unfinished();
        x.finish(1, 3000);
        x.urgency(1, 1000);
        x.urgency(0, 1);
        x.finisher(1, 3000);
        x.finisher(0, 1);
        check.due("everything", SavingTest.everything(x), SavingTest.everything(y));
        x.advance(100);
        y.advance(100);
        check.due("everything later", SavingTest.everything(x), SavingTest.everything(y));
    }

    private static PrintSpooler unfinished() {
        PrintSpooler x = Make.printing("*");
        Check.submit(x, 0, "2-3");
        x.advance(3);
        x.cancel(0);
        Check.text(x, "1-");
        return x;
    }
}
