/** Promises 35 to 37: counting, saving and restoring. */
public final class SavingTest {
    public static void main(String[] args) {
        Check check = new Check();
        counts(check);
        errors(check);
        saving(check);
        anotherPast(check);
        check.end();
    }

    private static void counts(Check check) {
        check.promise(35);
        PrintSpooler x = TimeTest.printing("*");
        Check.submit(x, 0, "1");
        Check.submit(x, 0, "2");
        x.addPrinter(1, 1, 1);
        x.addDocument(1, 0, 1, 0, 1);
        x.addDocument(1, 0, 1, 0, 1);
        Check.text(x, "1-o,");
        x.hold(2);
        x.advance(8);
        int[] due = {3, 3, 2, 8, 1, 4, 1};
        for (int what = 0; what <= 6; what++) {
            check.due("count(" + what + ")", x.count(what), due[what]);
        }
        check.due("count(7)", x.count(7), -2);
        check.due("count(-1)", x.count(-1), -2);
    }

    private static void errors(Check check) {
        PrintSpooler x = new PrintSpooler();
        check.promise(36);
        check.due("save(2)", x.save(2), -2);
        check.due("save(-1)", x.save(-1), -2);
        x.advance(7);
        check.due("save(1)", x.save(1), 7);
        check.promise(37);
        check.due("restore(2)", x.restore(2), -2);
        check.due("restore(-1)", x.restore(-1), -2);
        check.due("restore(0)", x.restore(0), -5);
        x.advance(7);
        check.due("restore(1)", x.restore(1), 7);
        check.due("the slot keeps it", x.restore(1), 7);
    }

    private static void saving(Check check) {
        check.promise(36);
        PrintSpooler x = TimeTest.printing("*");
        x.advance(10);
        x.hold(0);
        Check.text(x, "2-");
        x.set(PrintSpooler.LAYOUT, 2);
        String first = everything(x);
        check.due("save(0)", x.save(0), 10);
        check.due("saving changes nothing", everything(x), first);
        x.advance(5);
        x.addDocument(9, 1, 50, 7, 30);
        x.addPrinter(3, 99, 1);
        x.fill(1, 1, 50);
        x.setRules(3, 4);
        x.setQuota(0, 30);
        x.release(0);
        x.set(PrintSpooler.USER, 4);
        Check.submit(x, 1, "*");
        Check.submit(x, 0, "3");
        x.jam(0);
        x.advance(30);
        Check.text(x, "4-7o");
        String second = everything(x);
        check.due("save(1)", x.save(1), 45);
        check.promise(37);
        check.due("restore(0)", x.restore(0), 10);
        check.due("everything of slot 0", everything(x), first);
        Check.submit(x, 0, "1,1,1");
        x.advance(100);
        check.due("restore(1)", x.restore(1), 45);
        check.due("everything of slot 1", everything(x), second);
        check.due("restore(0)", x.restore(0), 10);
        check.due("everything of slot 0", everything(x), first);
        x.advance(1);
        x.save(0);
        String third = everything(x);
        x.advance(50);
        x.restore(0);
        check.due("the slot is overwritten", everything(x), third);
    }

    /** What is added after an undone past has nothing of it. */
    private static void anotherPast(Check check) {
        check.promise(37);
        PrintSpooler x = new PrintSpooler();
        x.save(0);
        x.addDocument(4, 0, 13, 0, 1);
        x.addPrinter(5, 20, 0);
        x.fill(0, 0, 20);
        x.fill(0, 2, 20);
        x.set(PrintSpooler.PRIORITY, 9);
        Check.submit(x, 0, "*");
        x.advance(1);
        x.jam(0);
        x.clear(0);
        x.advance(10);
        x.cancel(0);
        x.save(1);
        String before = everything(x);
        x.restore(0);
        x.addDocument(8, 1, 50, 3, 40);
        check.due("weight(0,2)", x.weight(0, 2), 56);
        x.addPrinter(9, 200, 1);
        int[] printer = {0, 0, 0, 0, -6, -6, 0};
        for (int what = 0; what <= 6; what++) {
            check.due("printer(0," + what + ")", x.printer(0, what), printer[what]);
        }
        Check.submit(x, 0, "1-2");
        check.due("rank", x.about(0, 11), 50);
        check.due("next sheet", x.about(0, 10), 0);
        check.due("pages", x.about(0, 7), 2);
        check.due("duration", x.duration(0, 0), 20);
        x.fill(0, 1, 9);
        x.advance(1);
        check.due("no request", x.release(0), -5);
        check.due("remaining", x.printer(0, 5), 10);
        x.restore(1);
        check.due("everything of slot 1", everything(x), before);
        check.due("weight(0,2)", x.weight(0, 2), 13);
    }

    /** The answers of all calls that change nothing, and of some that are undone again. */
    static String everything(PrintSpooler x) {
        StringBuilder all = new StringBuilder();
        for (int what = 0; what <= 6; what++) {
            all.append(x.count(what)).append(' ');
        }
        for (int setting = 0; setting <= 5; setting++) {
            int value = x.set(setting, 1);
            x.set(setting, value);
            all.append(value).append(' ');
        }
        for (int user = 0; user <= 5; user++) {
            int quota = x.setQuota(user, 1);
            x.setQuota(user, quota);
            all.append(quota).append(' ').append(x.printed(user)).append(' ');
        }
        all.append(x.fault()).append(' ');
        for (int document = 0; document < 10; document++) {
            all.append(x.weight(document, 1)).append(' ').append(x.listed(document, -1)).append(' ');
        }
        for (int job = 0; job < x.count(1); job++) {
            all.append("\njob ");
            for (int what = 0; what <= 11; what++) {
                all.append(x.about(job, what)).append(' ');
            }
            all.append(Check.canonical(x, job)).append(' ').append(x.duration(job, 0));
            all.append(' ').append(x.finish(job, 3000));
        }
        for (int printer = 0; printer < 3; printer++) {
            all.append("\nprinter ");
            for (int what = 0; what <= 6; what++) {
                all.append(x.printer(printer, what)).append(' ');
            }
        }
        for (int number = 0; number < x.count(4); number++) {
            all.append("\nlog ");
            for (int what = 0; what <= 3; what++) {
                all.append(x.log(number, what)).append(' ');
            }
        }
        return all.toString();
    }
}
