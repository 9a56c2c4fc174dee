/** Promises 8 to 10: settings, submitting and what a job is. */
public final class SettingTest {
    public static void main(String[] args) {
        Check check = new Check();
        settings(check);
        submitting(check);
        submitErrors(check);
        properties(check);
        check.end();
    }

    private static void settings(Check check) {
        check.promise(8);
        PrintSpooler x = new PrintSpooler();
        int[][] allowed = {{1, 10}, {0, 1}, {0, 1, 2}, {0, 1, 2, 4}, {0, 9}, {0, 5}};
        int[][] refused = {{0, 11, -1}, {-1, 2}, {-1, 3}, {-1, 3, 5}, {-1, 10}, {-1, 6}};
        int[] present = {1, 1, 0, 1, 5, 0};
        for (int setting = 0; setting <= 5; setting++) {
            for (int value : refused[setting]) {
                check.due("set(" + setting + "," + value + ")", x.set(setting, value), -2);
            }
            for (int value : allowed[setting]) {
                check.due("set(" + setting + "," + value + ")", x.set(setting, value), present[setting]);
                present[setting] = value;
            }
        }
        check.due("set(-1,1)", x.set(-1, 1), -2);
        check.due("set(6,1)", x.set(6, 1), -2);
    }

    private static void submitting(Check check) {
        check.promise(9);
        PrintSpooler x = new PrintSpooler();
        x.addDocument(10, 0, 1, 0, 1);
        x.addDocument(10, 2, 1, 0, 1);
        x.set(PrintSpooler.COPIES, 3);
        check.due("submit", Check.submit(x, 0, "-4"), 0);
        check.due("the text is empty", x.count(5), 0);
        check.due("count(1)", x.count(1), 1);
        check.due("it is WAITING", x.about(0, 9), 0);
        x.set(PrintSpooler.COPIES, 2);
        check.due("settings stay with the job", x.about(0, 0), 3);
        x.set(PrintSpooler.SIDES, 2);
        check.due("submit", Check.submit(x, 1, "1"), 1);
        check.due("one-sided paper", x.about(1, 2), 0);
        check.due("the setting stays", x.set(PrintSpooler.SIDES, 0), 2);
    }

    private static void submitErrors(Check check) {
        check.promise(9);
        PrintSpooler x = new PrintSpooler();
        check.due("no document, bad text", x.submit(0), -1);
        x.addDocument(400, 0, 1, 0, 1);
        x.addDocument(10, 2, 1, 0, 1);
        check.due("submit(-1)", x.submit(-1), -1);
        check.due("submit(2)", x.submit(2), -1);
        check.due("bad text", x.submit(0), -3);
        check.due("too long", Check.submit(x, 0, "*,1,!*"), -4);
        check.due("the text stays", x.count(5), 6);
        check.due("empty list", Check.submit(x, 0, "!*"), -5);
        check.due("the text stays", x.count(5), 2);
        x.set(PrintSpooler.LAYOUT, PrintSpooler.BOOKLET);
        check.due("booklet of one-sided paper", Check.submit(x, 1, "*"), -5);
        check.due("booklet", Check.submit(x, 0, "*"), 0);
        x.set(PrintSpooler.LAYOUT, 1);
        for (int i = 1; i < 24; i++) {
            check.due("submit", Check.submit(x, 0, "*"), i);
        }
        check.due("the 25th", Check.submit(x, 0, "*"), -4);
        check.due("the text stays", x.count(5), 1);
        check.due("an empty 25th", Check.submit(x, 0, "!*"), -4);
        check.due("a faulty 25th", Check.submit(x, 0, "*!"), -3);
        check.due("count(1)", x.count(1), 24);
    }

    private static void properties(Check check) {
        check.promise(10);
        PrintSpooler x = new PrintSpooler();
        x.addDocument(10, 0, 1, 0, 1);
        x.addDocument(9, 1, 1, 0, 1);
        int[] settings = {4, 0, 2, 2, 7, 3};
        for (int i = 0; i < 6; i++) {
            x.set(i, settings[i]);
        }
        Check.submit(x, 1, "*");
        for (int i = 0; i < 6; i++) {
            check.due("about(0," + i + ")", x.about(0, i), settings[i]);
        }
        check.due("document", x.about(0, 6), 1);
        check.due("pages", x.about(0, 7), 9);
        check.due("sheets", x.about(0, 8), 12);
        check.due("state", x.about(0, 9), 0);
        check.due("next sheet", x.about(0, 10), 0);
        check.due("rank", x.about(0, 11), 70);
        x.advance(39);
        check.due("rank after 39 ticks", x.about(0, 11), 71);
        x.advance(1);
        check.due("rank after 40 ticks", x.about(0, 11), 72);
        x.setRules(3, 0);
        check.due("rank with aging 3", x.about(0, 11), 83);
        x.promote(0, 0);
        check.due("rank with priority 0", x.about(0, 11), 13);
        check.due("priority", x.about(0, 4), 0);
        x.hold(0);
        check.due("rank while HELD", x.about(0, 11), -6);
        check.due("state", x.about(0, 9), 2);
        x.advance(5);
        x.release(0);
        check.due("rank after release", x.about(0, 11), 0);
        x.cancel(0);
        check.due("rank of a canceled job", x.about(0, 11), -6);
        check.due("about(0,12)", x.about(0, 12), -2);
        check.due("about(0,-1)", x.about(0, -1), -2);
        check.due("about(1,0)", x.about(1, 0), -1);
        check.due("about(-1,12)", x.about(-1, 12), -1);
        x.set(PrintSpooler.SIDES, 0);
        x.set(PrintSpooler.LAYOUT, 0);
        Check.submit(x, 0, "*");
        check.due("SIDES of a booklet", x.about(1, 2), 0);
        check.due("LAYOUT of a booklet", x.about(1, 3), 0);
        check.due("sheets of a booklet", x.about(1, 8), 12);
    }
}
