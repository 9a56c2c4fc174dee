/** Promises 35 to 37: counting, saving and restoring. */
public final class SavingTest {
    private static final int LEAST = Integer.MIN_VALUE, GREATEST = Integer.MAX_VALUE;
    private static final int[] NO_SLOTS = {-1, 2, LEAST, GREATEST};

    public static void main(String[] args) {
        Check check = new Check();
        counts(check);
        countErrors(check);
        slots(check);
        noSlots(check);
        emptyObject(check);
        everythingOnce(check);
        partByPart(check);
        slotsApart(check);
        overwriting(check);
        goesOnAlike(check);
        logAgain(check);
        anotherPast(check);
        fullRows(check);
        check.end();
    }

    private static void counts(Check check) {
        check.says(35, "Returns a number.");
        PrintSpooler x = Make.printing("*");
        check.says(35, "`what`: 0 for the number of documents, 1 of jobs, 2 of printers, 3 for the time, 4 for the number "
            + "of printed sheets, 5 for the length of the text, 6 for the number of jobs that are WAITING");
        Check.submit(x, 0, "1");
        Check.submit(x, 0, "2");
        Check.submit(x, 0, "3");
        x.addPrinter(1, 1, 1);
        x.addDocument(1, 0, 1, 0, 1);
        x.addDocument(1, 0, 1, 0, 1);
        Check.text(x, "1-o,");
        int[] atFirst = {3, 4, 2, 0, 0, 4, 4};
        for (int what = 0; what <= 6; what++) {
            check.due("count(" + what + ")", x.count(what), atFirst[what]);
        }
        x.hold(2);
        x.advance(8);
        int[] due = {3, 4, 2, 8, 1, 4, 2};
        for (int what = 0; what <= 6; what++) {
            check.due("count(" + what + ")", x.count(what), due[what]);
        }
        x.cancel(3);
        check.due("WAITING: neither PRINTING nor HELD nor CANCELED", x.count(6), 1);
        x.hold(1);
        check.due("none WAITING", x.count(6), 0);
        x.advance(21);
        check.due("nor DONE", x.count(6), 0);
        x.release(2);
        check.due("one WAITING", x.count(6), 1);
    }

    private static void countErrors(Check check) {
        check.says(35, "Returns the number; BAD_VALUE if what is not 0 to 6.");
        PrintSpooler x = Make.printing("*");
        int[] noWhats = {-1, 7, LEAST, GREATEST};
        for (int what : noWhats) {
            check.due("count(" + what + ")", x.count(what), -2);
        }
        check.due("count(0)", x.count(0), 1);
        check.due("count(6)", x.count(6), 1);
    }

    private static void slots(Check check) {
        check.says(36, "`slot`: 0 or 1");
        PrintSpooler x = new PrintSpooler();
        x.advance(7);
        check.due("save(0)", x.save(0), 7);
        x.advance(2);
        check.due("save(1)", x.save(1), 9);
        check.says(36, "Returns the time; BAD_VALUE if the slot does not exist.");
        for (int slot : NO_SLOTS) {
            check.due("save(" + slot + ")", x.save(slot), -2);
        }
        check.says(37, "`slot`: 0 or 1");
        x.advance(1);
        check.due("restore(0)", x.restore(0), 7);
        check.due("restore(1)", x.restore(1), 9);
        check.says(37, "Returns the time; BAD_VALUE if the slot does not exist; NOT_POSSIBLE if nothing was saved in it.");
        for (int slot : NO_SLOTS) {
            check.due("restore(" + slot + ")", x.restore(slot), -2);
        }
        check.due("the time stays", x.count(3), 9);
    }

    private static void noSlots(Check check) {
        check.says(37, "Returns the time; BAD_VALUE if the slot does not exist; NOT_POSSIBLE if nothing was saved in it.");
        for (int slot = 0; slot <= 1; slot++) {
            PrintSpooler x = Make.printing("*");
            x.advance(5);
            check.due("nothing saved at all", x.restore(slot), -5);
            x.save(1 - slot);
            check.due("nothing saved in this slot", x.restore(slot), -5);
            x.advance(5);
            x.restore(1 - slot);
            check.due("restoring saves nothing", x.restore(slot), -5);
            check.due("the time stays", x.count(3), 5);
            for (int noSlot : NO_SLOTS) {
                x.save(noSlot);
                check.due("restore(" + noSlot + ")", x.restore(noSlot), -2);
            }
            check.due("still nothing", x.restore(slot), -5);
            x.save(slot);
            check.due("saved", x.restore(slot), 5);
        }
    }

    private static void emptyObject(Check check) {
        check.says(36, "Saves everything in a slot, and overwrites what was saved there.");
        PrintSpooler x = new PrintSpooler();
        check.due("save(0)", x.save(0), 0);
        x.addDocument(4, 0, 13, 0, 1);
        x.addPrinter(5, 20, 0);
        x.fill(0, 0, 9);
        Check.submit(x, 0, "*");
        x.advance(10);
        check.due("restore(0)", x.restore(0), 0);
        for (int what = 0; what <= 6; what++) {
            check.due("count(" + what + ")", x.count(what), 0);
        }
        check.due("no document", x.weight(0, 1), -1);
        check.due("no job", x.about(0, 0), -1);
        check.due("no printer", x.printer(0, 0), -1);
        check.due("no printed sheet", x.log(0, 0), -6);
        check.due("printed(0)", x.printed(0), 0);
    }

    /** Saves, changes much, restores; and once more. */
    private static void everythingOnce(Check check) {
        check.says(37, "Restores what was saved last in a slot, which keeps it.");
        PrintSpooler x = manySided();
        x.save(0);
        change(x);
        check.due("restore(0)", x.restore(0), 10);
        check.due("everything", everything(x), everything(manySided()));
        PrintSpooler y = manySided();
        y.save(0);
        change(y);
        y.restore(0);
        y.advance(50);
        change(y);
        check.due("the slot keeps it", y.restore(0), 10);
        check.due("everything again", everything(y), everything(manySided()));
        check.says(36, "Saves everything in a slot, and overwrites what was saved there.");
        PrintSpooler z = manySided();
        z.save(0);
        z.save(1);
        check.due("saving changes nothing", everything(z), everything(manySided()));
    }

    private static PrintSpooler manySided() {
        PrintSpooler x = Make.printing("*");
        x.advance(10);
        x.hold(0);
        x.set(PrintSpooler.LAYOUT, 2);
        x.set(PrintSpooler.PRIORITY, 7);
        Check.submit(x, 0, "2-");
        x.setRules(3, 4);
        Check.text(x, "1-o");
        return x;
    }

    private static void change(PrintSpooler x) {
        x.advance(5);
        x.addDocument(9, 1, 50, 7, 30);
        x.addPrinter(3, 99, 1);
        x.fill(1, 1, 50);
        x.setRules(30, 40);
        x.setQuota(0, 30);
        x.release(0);
        x.promote(1, 1);
        x.set(PrintSpooler.USER, 4);
        x.set(PrintSpooler.LAYOUT, 1);
        Check.submit(x, 1, "*");
        Check.submit(x, 0, "3");
        x.jam(0);
        x.advance(30);
        x.cancel(1);
        Check.text(x, "4-7o");
    }

    /** Each part of the state by itself. */
    private static void partByPart(Check check) {
        check.says(36, "Saves everything in a slot, and overwrites what was saved there.");
        PrintSpooler x = Make.printing("*");
        Check.submit(x, 0, "2-3");
        x.advance(10);
        Check.text(x, "2-");
        x.save(1);
        int[] values = {3, 0, 2, 4, 9, 5};
        int[] initial = {1, 1, 0, 1, 5, 0};
        for (int setting = 0; setting <= 5; setting++) {
            x.set(setting, values[setting]);
            x.restore(1);
            check.due("setting " + setting, x.set(setting, initial[setting]), initial[setting]);
        }
        for (int user = 0; user <= 5; user++) {
            x.setQuota(user, 0);
            x.restore(1);
            check.due("the quota of " + user, x.setQuota(user, 10000), 10000);
        }
        x.setRules(7, 0);
        x.restore(1);
        check.due("the aging", x.setRules(20, 1000), 20);
        x.say('9');
        x.restore(1);
        check.due("the text", Check.listed(x, 0, "2-"), "2 3 4");
        x.wipe();
        x.restore(1);
        check.due("the text", x.listed(0, -1), 3);
        for (int size = 0; size <= 2; size++) {
            x.fill(0, size, 40);
            x.restore(1);
            check.due("tray " + size, x.printer(0, size), size == 0 ? 18 : 0);
        }
        x.jam(0);
        x.restore(1);
        check.due("the state of the printer", x.printer(0, 3), 1);
        check.due("its lost sheets", x.printer(0, 6), 0);
        check.due("its job", x.printer(0, 4), 0);
        check.due("the state of the job", x.about(0, 9), 1);
        x.advance(3);
        x.restore(1);
        check.due("the remaining time", x.printer(0, 5), 5);
        check.due("the time", x.count(3), 10);
        x.advance(300);
        x.restore(1);
        check.due("the number of printed sheets", x.count(4), 1);
        check.due("printed(0)", x.printed(0), 1);
        check.due("the log", x.log(1, 0), -6);
        check.due("the next sheet", x.about(0, 10), 1);
        x.cancel(1);
        x.restore(1);
        check.due("a WAITING job", x.about(1, 9), 0);
        x.promote(1, 0);
        x.restore(1);
        check.due("the priority", x.about(1, 4), 5);
        x.cancel(0);
        x.restore(1);
        check.due("no request", x.release(0), -5);
        x.hold(1);
        x.release(1);
        x.restore(1);
        x.setRules(1, 1000);
        check.due("the start of waiting", x.about(1, 11), 60);
        x.restore(1);
        x.cancel(0);
        x.save(1);
        x.release(0);
        x.restore(1);
        check.due("the request", x.release(0), 1);
        x.setRules(1000, 0);
        x.promote(1, 9);
        x.save(0);
        x.setRules(1000, 1000);
        x.restore(0);
        x.advance(5);
        check.due("the margin", x.printer(0, 4), 1);
    }

    private static void slotsApart(Check check) {
        check.says(36, "Saves everything in a slot, and overwrites what was saved there.");
        PrintSpooler x = manySided();
        x.save(0);
        change(x);
        check.due("save(1)", x.save(1), 45);
        check.due("restore(0)", x.restore(0), 10);
        check.due("everything of slot 0", everything(x), everything(manySided()));
        PrintSpooler y = manySided();
        y.save(1);
        change(y);
        y.save(0);
        y.restore(1);
        y.advance(100);
        check.due("restore(0)", y.restore(0), 45);
        PrintSpooler changed = manySided();
        change(changed);
        check.due("everything of slot 0", everything(y), everything(changed));
        check.due("slot 1 is as it was", y.restore(1), 10);
        // A slot is not of what a slot holds.
        PrintSpooler z = new PrintSpooler();
        z.save(0);
        z.advance(5);
        z.save(1);
        z.restore(0);
        check.due("the other slot stays", z.restore(1), 5);
        check.due("and the one restored", z.restore(0), 0);
    }

    private static void overwriting(Check check) {
        check.says(36, "Saves everything in a slot, and overwrites what was saved there.");
        PrintSpooler x = Make.printing("*");
        for (int time = 5; time <= 35; time += 5) {
            x.advance(5);
            check.due("save(0)", x.save(0), time);
        }
        x.advance(3);
        check.says(37, "Restores what was saved last in a slot, which keeps it.");
        check.due("the latest", x.restore(0), 35);
        check.due("the job is DONE", x.about(0, 9), 3);
        PrintSpooler y = Make.printing("*");
        y.advance(20);
        y.save(0);
        y.advance(9);
        y.restore(0);
        y.jam(0);
        y.save(0);
        y.clear(0);
        y.advance(9);
        y.restore(0);
        check.due("the time", y.count(3), 20);
        check.due("printed sheets", y.count(4), 2);
        check.due("the printer is JAMMED", y.printer(0, 3), 2);
    }

    /** What was restored goes on as what was saved did. */
    private static void goesOnAlike(Check check) {
        check.says(37, "Restores what was saved last in a slot, which keeps it.");
        PrintSpooler x = manySided();
        x.release(0);
        x.save(0);
        x.advance(25);
        PrintSpooler y = manySided();
        y.release(0);
        y.save(0);
        change(y);
        y.restore(0);
        y.advance(25);
        check.due("everything later", everything(y), everything(x));
    }

    private static void logAgain(Check check) {
        check.says(37, "Restores what was saved last in a slot, which keeps it.");
        PrintSpooler x = Make.printed(120);
        x.save(0);
        x.advance(100);
        check.due("170 printed sheets: the oldest", x.log(70, 3), 70);
        check.due("170 printed sheets: the one before it", x.log(69, 3), -6);
        x.restore(0);
        check.due("120 printed sheets", x.count(4), 120);
        for (int number = 18; number <= 121; number++) {
            boolean kept = number >= 20 && number < 120;
            check.due("log(" + number + ",0)", x.log(number, 0), kept ? 3 + 2 * number : -6);
        }
    }

    /** What is added after an undone past has nothing of it. */
    private static void anotherPast(Check check) {
        check.says(37, "Restores what was saved last in a slot, which keeps it.");
        PrintSpooler x = new PrintSpooler();
        x.save(0);
        x.addDocument(4, 0, 13, 0, 1);
        x.addPrinter(5, 20, 0);
        x.fill(0, 0, 20);
        x.fill(0, 2, 20);
        x.set(PrintSpooler.PRIORITY, 9);
        Check.submit(x, 0, "*");
        x.advance(1);
        x.jam(0);
        x.clear(0);
        x.advance(10);
        x.cancel(0);
        x.save(1);
        x.restore(0);
        x.addDocument(8, 1, 50, 3, 40);
        check.due("weight(0,2)", x.weight(0, 2), 56);
        x.addPrinter(9, 200, 1);
        int[] printer = {0, 0, 0, 0, -6, -6, 0};
        for (int what = 0; what <= 6; what++) {
            check.due("printer(0," + what + ")", x.printer(0, what), printer[what]);
        }
        Check.submit(x, 0, "1-2");
        check.due("rank", x.about(0, 11), 50);
        check.due("next sheet", x.about(0, 10), 0);
        check.due("pages", x.about(0, 7), 2);
        check.due("duration", x.duration(0, 0), 20);
        x.fill(0, 1, 9);
        x.advance(1);
        check.due("no request", x.release(0), -5);
        check.due("remaining", x.printer(0, 5), 10);
        check.due("restore(1)", x.restore(1), 11);
        check.due("pages", x.about(0, 7), 4);
        check.due("the last page", x.page(0, 3, 0, 0), 4);
        check.due("weight(0,2)", x.weight(0, 2), 13);
        check.due("the request", x.release(0), 1);
        check.due("lost sheets", x.printer(0, 6), 1);
        check.due("remaining", x.printer(0, 5), 5);
        check.due("priority", x.about(0, 4), 9);
    }

    /** The rows of documents, jobs and printers are full, saved and restored. */
    private static void fullRows(Check check) {
        check.says(36, "Saves everything in a slot, and overwrites what was saved there.");
        PrintSpooler x = new PrintSpooler();
        x.save(0);
        for (int i = 0; i < 10; i++) {
            x.addDocument(10 + i, 0, 1 + i, 0, 1);
        }
        for (int i = 0; i < 3; i++) {
            x.addPrinter(1 + i, 20, 0);
            x.fill(i, i, 1 + i);
        }
        for (int job = 0; job < 24; job++) {
            Check.submit(x, job % 10, "-" + (1 + job % 9));
        }
        x.save(1);
        x.restore(0);
        check.due("a document", x.addDocument(1, 0, 1, 0, 1), 0);
        check.due("a printer", x.addPrinter(1, 1, 0), 0);
        check.due("a job", Check.submit(x, 0, "1"), 0);
        x.restore(1);
        check.due("an eleventh document", x.addDocument(1, 0, 1, 0, 1), -4);
        check.due("a fourth printer", x.addPrinter(1, 1, 0), -4);
        check.due("a 25th job", Check.submit(x, 0, "1"), -4);
        for (int i = 0; i < 10; i++) {
            check.due("weight(" + i + ",10)", x.weight(i, 10), 1 + i);
        }
        for (int i = 0; i < 3; i++) {
            check.due("tray " + i, x.printer(i, i), 1 + i);
        }
        for (int job = 0; job < 24; job++) {
            check.due("document of job " + job, x.about(job, 6), job % 10);
            check.due("pages of job " + job, x.about(job, 7), 1 + job % 9);
        }
    }

    /** The answers of all calls that change nothing, and of some that are undone again. */
    static String everything(PrintSpooler x) {
        StringBuilder all = new StringBuilder();
        for (int what = 0; what <= 6; what++) {
            all.append(x.count(what)).append(' ');
        }
        for (int setting = 0; setting <= 5; setting++) {
            int value = x.set(setting, 1);
            x.set(setting, value);
            all.append(value).append(' ');
        }
        for (int user = 0; user <= 5; user++) {
            int quota = x.setQuota(user, 1);
            x.setQuota(user, quota);
            all.append(quota).append(' ').append(x.printed(user)).append(' ');
        }
        all.append(x.fault()).append(' ');
        for (int document = 0; document < 10; document++) {
            all.append(x.weight(document, 1)).append(' ').append(x.listed(document, -1)).append(' ');
        }
        for (int job = 0; job < x.count(1); job++) {
            all.append("\njob ");
            for (int what = 0; what <= 11; what++) {
                all.append(x.about(job, what)).append(' ');
            }
            all.append(Check.canonical(x, job)).append(' ').append(x.duration(job, 0));
            all.append(' ').append(x.finish(job, 3000));
        }
        for (int printer = 0; printer < 3; printer++) {
            all.append("\nprinter ");
            for (int what = 0; what <= 6; what++) {
                all.append(x.printer(printer, what)).append(' ');
            }
        }
        for (int number = 0; number < x.count(4); number++) {
            all.append("\nlog ");
            for (int what = 0; what <= 3; what++) {
                all.append(x.log(number, what)).append(' ');
            }
        }
        return all.toString();
    }
}
