/** Promises 21 to 23: aging and margin, quotas, and promotion. */
public final class RulesTest {
    public static void main(String[] args) {
        Check check = new Check();
        rules(check);
        quotas(check);
        quotaStops(check);
        promotion(check);
        check.end();
    }

    private static void rules(Check check) {
        check.promise(21);
        PrintSpooler x = new PrintSpooler();
        check.due("setRules(0,0)", x.setRules(0, 0), -2);
        check.due("setRules(1001,0)", x.setRules(1001, 0), -2);
        check.due("setRules(1,-1)", x.setRules(1, -1), -2);
        check.due("setRules(1,1001)", x.setRules(1, 1001), -2);
        check.due("setRules(1000,1000)", x.setRules(1000, 1000), 20);
        check.due("setRules(1,0)", x.setRules(1, 0), 1000);
        check.due("setRules(7,7)", x.setRules(7, 7), 1);
    }

    private static void quotas(Check check) {
        check.promise(22);
        PrintSpooler x = new PrintSpooler();
        check.due("setQuota(-1,-1)", x.setQuota(-1, -1), -1);
        check.due("setQuota(6,0)", x.setQuota(6, 0), -1);
        check.due("setQuota(0,-1)", x.setQuota(0, -1), -2);
        check.due("setQuota(0,10001)", x.setQuota(0, 10001), -2);
        check.due("setQuota(5,0)", x.setQuota(5, 0), 10000);
        check.due("setQuota(5,10000)", x.setQuota(5, 10000), 0);
        check.due("setQuota(4,3)", x.setQuota(4, 3), 10000);
        check.due("setQuota(4,3)", x.setQuota(4, 3), 3);
    }

    private static void quotaStops(Check check) {
        check.promise(22);
        PrintSpooler x = TimeTest.printing("*");
        x.setQuota(0, 2);
        x.advance(100);
        check.due("printed sheets", x.printed(0), 2);
        check.due("it waits", x.about(0, 9), 0);
        check.due("since the second sheet, at time 15", x.about(0, 11), 50 + 85 / 20);
        x.setQuota(0, 3);
        x.advance(100);
        check.due("printed sheets", x.printed(0), 3);
        x.setQuota(0, 0);
        check.due("forecast", x.finish(0, 3000), -6);
        x.setQuota(0, 4);
        check.due("forecast", x.finish(0, 3000), 8);
    }

    private static void promotion(Check check) {
        check.promise(23);
        PrintSpooler x = TimeTest.printing("*");
        check.due("no job", x.promote(1, 10), -1);
        check.due("promote(-1,0)", x.promote(-1, 0), -1);
        check.due("promote(0,10)", x.promote(0, 10), -2);
        check.due("promote(0,-1)", x.promote(0, -1), -2);
        check.due("WAITING", x.promote(0, 9), 5);
        x.advance(1);
        check.due("PRINTING", x.promote(0, 0), 9);
        x.hold(0);
        x.advance(7);
        check.due("it is HELD", x.about(0, 9), 2);
        check.due("HELD", x.promote(0, 3), 0);
        x.cancel(0);
        check.due("CANCELED, bad priority", x.promote(0, 10), -2);
        check.due("CANCELED", x.promote(0, 4), -5);
        check.due("the priority stays", x.about(0, 4), 3);
        Check.submit(x, 0, "1");
        x.advance(8);
        check.due("DONE", x.promote(1, 4), -5);
    }
}
