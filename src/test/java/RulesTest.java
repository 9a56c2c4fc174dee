/** Promises 21 to 23: aging and margin, quotas, and promotion. */
public final class RulesTest {
    private static final int LEAST = Integer.MIN_VALUE, GREATEST = Integer.MAX_VALUE;

    public static void main(String[] args) {
        Check check = new Check();
        rules(check);
        rulesTogether(check);
        agingAndRank(check);
        quotas(check);
        quotaErrors(check);
        firstQuota(check);
        quotaStops(check);
        promotion(check);
        promotionErrors(check);
        check.end();
    }

    private static void rules(Check check) {
        check.says(21, "`aging`: 1 to 1000");
        PrintSpooler x = new PrintSpooler();
        int[] noAging = {0, -1, 1001, LEAST, GREATEST};
        for (int aging : noAging) {
            check.due("setRules(" + aging + ",0)", x.setRules(aging, 0), -2);
        }
        check.says(0, "The aging is 20 initially.");
        check.due("setRules(1000,1000)", x.setRules(1000, 1000), 20);
        check.says(21, "`aging`: 1 to 1000");
        check.due("setRules(1,0)", x.setRules(1, 0), 1000);
        check.due("setRules(7,7)", x.setRules(7, 7), 1);
        check.says(21, "`margin`: 0 to 1000");
        int[] noMargin = {-1, 1001, LEAST, GREATEST};
        for (int margin : noMargin) {
            check.due("setRules(8," + margin + ")", x.setRules(8, margin), -2);
        }
        check.due("setRules(9,0)", x.setRules(9, 0), 7);
        check.due("setRules(10,1000)", x.setRules(10, 1000), 9);
        check.says(21, "Returns the previous aging; BAD_VALUE if one of them is out of range.");
        check.due("both out of range", x.setRules(0, -1), -2);
        check.due("both out of range", x.setRules(1001, 1001), -2);
        check.due("setRules(11,5)", x.setRules(11, 5), 10);
    }

    /** A job of priority 5 prints while one of priority 6 waits; whether it goes on depends on the margin. */
    private static int printsOn(int aging, int margin) {
        PrintSpooler x = Make.printing("*");
        x.setRules(1000, 10);
        x.setRules(aging, margin);
        x.advance(1);
        x.set(PrintSpooler.PRIORITY, 6);
        Check.submit(x, 0, "*");
        x.advance(7);
        return x.printer(0, 4) == 0 ? 1 : 0;
    }

    private static void rulesTogether(Check check) {
        check.says(21, "Sets the aging and the margin.");
        check.due("aging 1000, margin 10", printsOn(1000, 10), 1);
        check.due("aging 1000, margin 9", printsOn(1000, 9), 0);
        check.due("aging 1000, margin 0", printsOn(1000, 0), 0);
        check.due("aging 8, margin 10", printsOn(8, 10), 1);
        check.due("aging 7, margin 10", printsOn(7, 10), 0);
        check.due("aging 1, margin 17", printsOn(1, 17), 1);
        check.due("aging 1, margin 16", printsOn(1, 16), 0);
        check.due("aging 1, margin 1000", printsOn(1, 1000), 1);
        check.says(21, "Returns the previous aging; BAD_VALUE if one of them is out of range.");
        check.due("a bad aging leaves the margin", printsOn(0, 0), 1);
        check.due("a bad aging leaves the margin", printsOn(1001, 0), 1);
        check.due("a bad margin leaves the aging", printsOn(1, -1), 1);
        check.due("a bad margin leaves the aging", printsOn(1, 1001), 1);
    }

    private static void agingAndRank(Check check) {
        check.says(0, "The rank of a job at some time is 10 * PRIORITY + (time - start of waiting) / aging.");
        PrintSpooler x = Make.document(4, 0);
        Check.submit(x, 0, "*");
        check.due("at once", x.about(0, 11), 50);
        x.advance(19);
        check.due("after 19 ticks", x.about(0, 11), 50);
        x.advance(1);
        check.due("after 20 ticks", x.about(0, 11), 51);
        Check.submit(x, 0, "*");
        x.advance(19);
        check.due("after 39 ticks", x.about(0, 11), 51);
        check.due("the second after 19 ticks", x.about(1, 11), 50);
        x.advance(1);
        check.due("after 40 ticks", x.about(0, 11), 52);
        check.due("the second after 20 ticks", x.about(1, 11), 51);
        x.setRules(1000, 0);
        check.due("aging 1000", x.about(0, 11), 50);
        x.setRules(40, 0);
        check.due("aging 40", x.about(0, 11), 51);
        x.setRules(41, 0);
        check.due("aging 41", x.about(0, 11), 50);
        x.setRules(1, 0);
        check.due("aging 1", x.about(0, 11), 90);
        x.promote(0, 0);
        check.due("priority 0", x.about(0, 11), 40);
        x.promote(0, 9);
        check.due("priority 9", x.about(0, 11), 130);
        x.hold(0);
        x.advance(5);
        x.release(0);
        check.due("from its release", x.about(0, 11), 90);
        x.advance(1);
        check.due("a tick later", x.about(0, 11), 91);
    }

    private static void quotas(Check check) {
        check.says(0, "Each user has a quota, which is 10000 initially.");
        PrintSpooler x = new PrintSpooler();
        for (int user = 0; user <= 5; user++) {
            check.due("the quota of " + user, x.setQuota(user, 10 + user), 10000);
        }
        check.says(22, "Sets the quota of a user.");
        for (int user = 0; user <= 5; user++) {
            check.due("the quota of " + user, x.setQuota(user, 20 + user), 10 + user);
        }
        check.says(22, "`user`: the user");
        check.due("setQuota(5,0)", x.setQuota(5, 0), 25);
        check.due("setQuota(0,0)", x.setQuota(0, 0), 20);
        check.says(22, "`quota`: 0 to 10000");
        check.due("setQuota(4,0)", x.setQuota(4, 0), 24);
        check.due("setQuota(4,10000)", x.setQuota(4, 10000), 0);
        check.due("setQuota(4,9999)", x.setQuota(4, 9999), 10000);
        int[] noQuotas = {-1, 10001, LEAST, GREATEST};
        for (int quota : noQuotas) {
            check.due("setQuota(4," + quota + ")", x.setQuota(4, quota), -2);
        }
        check.due("setQuota(4,1)", x.setQuota(4, 1), 9999);
    }

    private static void quotaErrors(Check check) {
        check.says(22, "Returns the previous quota; NO_SUCH if there is no such user; BAD_VALUE if quota is out of range.");
        PrintSpooler x = new PrintSpooler();
        int[] noUsers = {-1, 6, LEAST, GREATEST};
        for (int user : noUsers) {
            check.due("setQuota(" + user + ",1)", x.setQuota(user, 1), -1);
            check.due("setQuota(" + user + ",-1)", x.setQuota(user, -1), -1);
            check.due("setQuota(" + user + ",10001)", x.setQuota(user, 10001), -1);
        }
        check.due("setQuota(5,10001)", x.setQuota(5, 10001), -2);
        check.due("setQuota(5,-1)", x.setQuota(5, -1), -2);
        check.due("setQuota(5,7)", x.setQuota(5, 7), 10000);
        check.due("setQuota(5,7)", x.setQuota(5, 7), 7);
    }

    /** Three jobs of 4000 sheets for user 0: the first quota is used up to its last sheet, and no further. */
    private static void firstQuota(Check check) {
        check.says(0, "Each user has a quota, which is 10000 initially.");
        PrintSpooler x = Make.printed(0);
        Check.submit(x, 0, "*");
        Check.submit(x, 0, "*");
        x.fill(0, 0, -500);
        for (int round = 0; round < 20; round++) {
            x.fill(0, 0, 500);
            x.advance(1000);
            x.advance(round == 0 ? 1 : 10);
        }
        check.due("printed(0)", x.printed(0), 10000);
        check.due("sheets of its jobs", x.about(0, 10) + x.about(1, 10) + x.about(2, 10), 10000);
        x.fill(0, 0, 500);
        x.advance(100);
        check.due("printed(0)", x.printed(0), 10000);
        check.due("it waits", x.about(2, 9), 0);
        check.due("finish(2,3000)", x.finish(2, 3000), -6);
        x.set(PrintSpooler.USER, 1);
        x.set(PrintSpooler.COPIES, 1);
        Check.submit(x, 0, "1");
        x.advance(3);
        check.due("another user", x.about(3, 9), 3);
    }

    private static void quotaStops(Check check) {
        check.says(0, "and the number of printed sheets of its user is less than the quota of this user.");
        PrintSpooler x = Make.printing("*");
        x.setQuota(0, 0);
        x.advance(10);
        check.due("a quota of 0", x.about(0, 9), 0);
        x.setQuota(0, 1);
        x.advance(1);
        check.due("a quota of 1", x.about(0, 9), 1);
        x.advance(7);
        check.due("it is used up", x.about(0, 9), 0);
        check.due("from now on it waits", x.about(0, 11), 50);
        x.advance(50);
        check.due("printed sheets", x.printed(0), 1);
        x.setQuota(0, 2);
        x.advance(1);
        x.setQuota(0, 0);
        check.due("a smaller quota stops no sheet", x.about(0, 9), 1);
        x.advance(7);
        check.due("printed sheets", x.printed(0), 2);
        check.due("it waits", x.about(0, 9), 0);
        check.due("forecast", x.finish(0, 3000), -6);
        x.setQuota(0, 3);
        check.due("forecast", x.finish(0, 3000), -6);
        x.setQuota(0, 4);
        check.due("forecast", x.finish(0, 3000), 15);
        PrintSpooler y = Make.document(1, 0);
        for (int i = 0; i < 3; i++) {
            y.addPrinter(5, 20, 0);
            y.fill(i, 0, 9);
            y.set(PrintSpooler.USER, 4);
            Check.submit(y, 0, "1");
        }
        y.setQuota(4, 1);
        y.advance(8);
        check.due("three sheets began before one was printed", y.printed(4), 3);
        Check.submit(y, 0, "1");
        y.advance(8);
        check.due("no more", y.printed(4), 3);
    }

    private static void promotion(Check check) {
        check.says(23, "Changes the priority of a job that is WAITING, PRINTING or HELD.");
        PrintSpooler x = Make.printing("*");
        check.due("WAITING", x.promote(0, 9), 5);
        check.due("its priority", x.about(0, 4), 9);
        check.due("its rank", x.about(0, 11), 90);
        x.advance(1);
        check.due("PRINTING", x.promote(0, 0), 9);
        check.due("its priority", x.about(0, 4), 0);
        x.hold(0);
        x.advance(7);
        check.due("it is HELD", x.about(0, 9), 2);
        check.due("HELD", x.promote(0, 3), 0);
        check.due("it stays HELD", x.about(0, 9), 2);
        check.due("the setting stays", x.set(PrintSpooler.PRIORITY, 1), 5);
        check.says(23, "`priority`: 0 to 9");
        check.due("promote(0,9)", x.promote(0, 9), 3);
        check.due("promote(0,0)", x.promote(0, 0), 9);
        int[] noPriorities = {-1, 10, LEAST, GREATEST};
        for (int priority : noPriorities) {
            check.due("promote(0," + priority + ")", x.promote(0, priority), -2);
        }
        check.due("promote(0,4)", x.promote(0, 4), 0);
        check.says(23, "`job`: the job");
        Check.submit(x, 0, "*");
        check.due("promote(1,7)", x.promote(1, 7), 1);
        check.due("the other stays", x.about(0, 4), 4);
    }

    private static void promotionErrors(Check check) {
        check.says(23, "Returns the previous priority; NO_SUCH if there is no such job; BAD_VALUE if priority is out of "
            + "range; NOT_POSSIBLE if the job is DONE or CANCELED.");
        PrintSpooler x = Make.printing("1");
        int[] noJobs = {-1, 1, 24, LEAST, GREATEST};
        for (int job : noJobs) {
            check.due("promote(" + job + ",5)", x.promote(job, 5), -1);
            check.due("promote(" + job + ",10)", x.promote(job, 10), -1);
            check.due("promote(" + job + ",-1)", x.promote(job, -1), -1);
        }
        x.advance(8);
        check.due("DONE", x.promote(0, 4), -5);
        check.due("DONE, a bad priority", x.promote(0, 10), -2);
        check.due("the priority stays", x.about(0, 4), 5);
        Check.submit(x, 0, "1");
        x.cancel(1);
        check.due("CANCELED", x.promote(1, 4), -5);
        check.due("CANCELED, a bad priority", x.promote(1, -1), -2);
        check.due("the priority stays", x.about(1, 4), 5);
    }
}
