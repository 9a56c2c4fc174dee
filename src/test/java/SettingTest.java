/** Promises 8 to 10: settings, submitting and what a job is. */
public final class SettingTest {
    private static final int LEAST = Integer.MIN_VALUE, GREATEST = Integer.MAX_VALUE;
    private static final String SUBMIT_RESULT = "Returns the number of the job; NO_SUCH if there is no such document; "
        + "BAD_TEXT if the text is not correct; TOO_MANY if the list has more than 400 pages after some item, or there "
        + "are 24 jobs; NOT_POSSIBLE if the list is empty, or a booklet is asked for of a document with paper size 2.";

    public static void main(String[] args) {
        Check check = new Check();
        ranges(check);
        setting(check);
        takingOver(check);
        paperOfSizeTwo(check);
        submitting(check);
        submitErrors(check);
        rowOfJobs(check);
        properties(check);
        ranks(check);
        aboutErrors(check);
        check.end();
    }

    /** Of a setting: what it is at first, the values that are accepted, and those that are refused. */
    private static void range(Check check, int setting, int initial, int[] accepted, int[] refused) {
        PrintSpooler x = new PrintSpooler();
        int present = initial;
        for (int value : refused) {
            check.due("set(" + setting + "," + value + ")", x.set(setting, value), -2);
        }
        for (int value : accepted) {
            check.due("set(" + setting + "," + value + ")", x.set(setting, value), present);
            present = value;
        }
        for (int value : refused) {
            check.due("set(" + setting + "," + value + ")", x.set(setting, value), -2);
        }
        check.due("what it was", x.set(setting, 1), present);
    }

    private static void ranges(Check check) {
        check.says(0, "There are the following settings, whose ranges and initial values are given in parentheses.");
        PrintSpooler x = new PrintSpooler();
        int[] initial = {1, 1, 0, 1, 5, 0};
        for (int setting = 0; setting <= 5; setting++) {
            check.due("set(" + setting + ",1)", x.set(setting, 1), initial[setting]);
        }
        check.says(0, "COPIES (1 to 10; 1) and COLLATE (0 or 1; 1).");
        range(check, PrintSpooler.COPIES, 1, new int[] {1, 2, 9, 10}, new int[] {0, 11, -1, LEAST, GREATEST});
        range(check, PrintSpooler.COLLATE, 1, new int[] {0, 1}, new int[] {-1, 2, LEAST, GREATEST});
        check.says(0, "SIDES: ONE_SIDED (0), LONG_EDGE (1) or SHORT_EDGE (2) (initially ONE_SIDED).");
        range(check, PrintSpooler.SIDES, 0, new int[] {0, 1, 2}, new int[] {-1, 3, LEAST, GREATEST});
        check.says(0, "LAYOUT (1, 2, 4 or BOOKLET, which is 0; 1): the number of pages per side, or a booklet.");
        range(check, PrintSpooler.LAYOUT, 1, new int[] {0, 1, 2, 4}, new int[] {-1, 3, 5, 8, LEAST, GREATEST});
        check.says(0, "PRIORITY (0 to 9; 5) and USER (0 to 5; 0).");
        range(check, PrintSpooler.PRIORITY, 5, new int[] {0, 9}, new int[] {-1, 10, LEAST, GREATEST});
        range(check, PrintSpooler.USER, 0, new int[] {0, 5}, new int[] {-1, 6, LEAST, GREATEST});
    }

    private static void setting(Check check) {
        check.says(8, "Sets a setting.");
        PrintSpooler x = new PrintSpooler();
        int[] changed = {7, 0, 2, 4, 8, 3};
        int[] initial = {1, 1, 0, 1, 5, 0};
        for (int setting = 0; setting <= 5; setting++) {
            x.set(setting, changed[setting]);
            for (int other = 0; other <= 5; other++) {
                int present = other <= setting ? changed[other] : initial[other];
                check.due("setting " + other, x.set(other, present), present);
            }
        }
        check.says(8, "`setting`: COPIES to USER");
        int[] noSettings = {-1, 6, LEAST, GREATEST};
        for (int setting : noSettings) {
            check.due("set(" + setting + ",1)", x.set(setting, 1), -2);
        }
        check.says(8, "`value`: the new value");
        check.due("set(0,5)", x.set(0, 5), 7);
        check.due("set(0,5)", x.set(0, 5), 5);
        check.says(8, "Returns the previous value; BAD_VALUE if there is no such setting or the value is out of its "
            + "range.");
        check.due("set(0,0)", x.set(0, 0), -2);
        check.due("set(-1,0)", x.set(-1, 0), -2);
        check.due("set(6,0)", x.set(6, 0), -2);
        check.due("it stays", x.set(0, 1), 5);
    }

    private static void takingOver(Check check) {
        check.says(0, "A job takes them over when it is submitted.");
        PrintSpooler x = Make.document(10, 0);
        int[] first = {4, 0, 2, 2, 7, 3};
        int[] second = {10, 1, 1, 4, 0, 5};
        for (int setting = 0; setting <= 5; setting++) {
            x.set(setting, first[setting]);
        }
        Check.submit(x, 0, "*");
        for (int setting = 0; setting <= 5; setting++) {
            x.set(setting, second[setting]);
        }
        Check.submit(x, 0, "*");
        for (int setting = 0; setting <= 5; setting++) {
            x.set(setting, 1);
        }
        for (int setting = 0; setting <= 5; setting++) {
            check.due("about(0," + setting + ")", x.about(0, setting), first[setting]);
            check.due("about(1," + setting + ")", x.about(1, setting), second[setting]);
        }
        check.due("sheets of job 0", x.about(0, 8), 4 * 3);
        check.due("sheets of job 1", x.about(1, 8), 10 * 2);
    }

    private static void paperOfSizeTwo(Check check) {
        check.says(0, "Sheets of paper size 2 can only be printed on one side: for a document of this size, SIDES counts "
            + "as ONE_SIDED.");
        for (int sides = 0; sides <= 2; sides++) {
            for (int size = 0; size <= 2; size++) {
                PrintSpooler x = Make.document(10, size);
                x.set(PrintSpooler.SIDES, sides);
                Check.submit(x, 0, "*");
                boolean oneSided = size == 2 || sides == 0;
                check.due("about(0,2)", x.about(0, 2), oneSided ? 0 : sides);
                check.due("sheets", x.about(0, 8), oneSided ? 10 : 5);
                check.due("page(0,0,1,0)", x.page(0, 0, 1, 0), oneSided ? -2 : 2);
                check.due("the setting stays", x.set(PrintSpooler.SIDES, 0), sides);
            }
        }
    }

    private static void submitting(Check check) {
        check.says(9, "Submits a job with the pages that the text describes and the present settings.");
        PrintSpooler x = new PrintSpooler();
        x.addDocument(10, 0, 1, 0, 1);
        x.addDocument(5, 1, 1, 0, 1);
        x.set(PrintSpooler.COPIES, 3);
        check.due("submit", Check.submit(x, 0, "7-4,9"), 0);
        check.due("pages", x.about(0, 7), 5);
        check.due("the first", x.page(0, 0, 0, 0), 7);
        check.due("the last", x.page(0, 4, 0, 0), 9);
        check.due("copies", x.about(0, 0), 3);
        check.says(9, "It is WAITING from now on.");
        x.advance(20);
        check.due("submit", Check.submit(x, 1, "*"), 1);
        check.due("state", x.about(1, 9), 0);
        check.due("rank", x.about(1, 11), 50);
        check.due("rank of the one before", x.about(0, 11), 51);
        check.says(9, "The text is empty then.");
        check.due("count(5)", x.count(5), 0);
        check.due("fault()", x.fault(), 0);
        check.due("submit(1)", x.submit(1), -3);
        check.says(9, "`document`: its document");
        check.due("about(0,6)", x.about(0, 6), 0);
        check.due("about(1,6)", x.about(1, 6), 1);
        check.due("pages", x.about(1, 7), 5);
        check.says(0, "A job has a document, a list of pages, and its settings.");
        check.due("the list of job 0", Check.canonical(x, 0), "7-4,9");
        check.due("the list of job 1", Check.canonical(x, 1), "1-5");
        Check.submit(x, 1, "1");
        check.due("the list stays", Check.canonical(x, 1), "1-5");
    }

    private static void submitErrors(Check check) {
        check.says(9, SUBMIT_RESULT);
        PrintSpooler x = new PrintSpooler();
        check.due("no document, the empty text", x.submit(0), -1);
        x.addDocument(400, 0, 1, 0, 1);
        x.addDocument(10, 2, 1, 0, 1);
        check.due("the empty text", x.submit(0), -3);
        int[] noDocuments = {-1, 2, 10, LEAST, GREATEST};
        for (int document : noDocuments) {
            check.due("no document", Check.submit(x, document, "*"), -1);
            check.due("no document, a bad text", Check.submit(x, document, "*x"), -1);
        }
        check.due("a bad text", Check.submit(x, 0, "1-2-"), -3);
        check.due("a bad text with 401 pages", Check.submit(x, 0, "*,1,"), -3);
        check.due("401 pages", Check.submit(x, 0, "*,1,!*,2"), -4);
        check.due("401 pages, then none", Check.submit(x, 0, "*,1,!*"), -4);
        check.due("the empty list", Check.submit(x, 0, "!*"), -5);
        check.due("the empty list", Check.submit(x, 0, "401-"), -5);
        check.due("the text stays", x.count(5), 4);
        x.set(PrintSpooler.LAYOUT, PrintSpooler.BOOKLET);
        check.due("a booklet of paper size 2", Check.submit(x, 1, "*"), -5);
        check.due("a booklet of paper size 2, a bad text", Check.submit(x, 1, "0"), -3);
        check.due("a booklet of paper size 2, no pages", Check.submit(x, 1, "11-"), -5);
        check.due("no job came of it", x.count(1), 0);
        check.due("a booklet of paper size 0", Check.submit(x, 0, "*"), 0);
        x.set(PrintSpooler.LAYOUT, 4);
        check.due("four pages per side of paper size 2", Check.submit(x, 1, "*"), 1);
        x.set(PrintSpooler.LAYOUT, PrintSpooler.BOOKLET);
        x.addDocument(400, 2, 1, 0, 1);
        check.due("401 pages, a booklet of paper size 2", Check.submit(x, 2, "*,1"), -4);
        x.addDocument(400, 1, 1, 0, 1);
        check.due("400 pages, a booklet of paper size 1", Check.submit(x, 3, "*,!1,1"), 2);
        check.due("pages", x.about(2, 7), 400);
    }

    private static void rowOfJobs(Check check) {
        PrintSpooler x = new PrintSpooler();
        x.addDocument(400, 0, 1, 0, 1);
        x.addDocument(10, 2, 1, 0, 1);
        for (int i = 0; i < 23; i++) {
            check.due("submit", Check.submit(x, 0, "*"), i);
        }
        check.says(0, "Up to 24 jobs can be submitted.");
        check.due("the 24th", Check.submit(x, 0, "2-3"), 23);
        check.due("the 25th", Check.submit(x, 0, "*"), -4);
        check.due("count(1)", x.count(1), 24);
        check.due("the 24th stays", Check.canonical(x, 23), "2-3");
        check.says(9, SUBMIT_RESULT);
        check.due("the text stays", x.count(5), 1);
        check.due("a 25th of no document", Check.submit(x, 2, "*"), -1);
        check.due("a 25th with a bad text", Check.submit(x, 0, "*!"), -3);
        check.due("a 25th with 401 pages", Check.submit(x, 0, "*,1"), -4);
        check.due("a 25th without pages", Check.submit(x, 0, "!*"), -4);
        x.set(PrintSpooler.LAYOUT, PrintSpooler.BOOKLET);
        check.due("a 25th, a booklet of paper size 2", Check.submit(x, 1, "*"), -4);
        x.cancel(3);
        check.due("a canceled job leaves no room", Check.submit(x, 0, "*"), -4);
    }

    private static void properties(Check check) {
        check.says(10, "Returns a property of a job.");
        PrintSpooler x = new PrintSpooler();
        x.addDocument(10, 0, 1, 0, 1);
        x.addDocument(9, 1, 1, 0, 1);
        int[] settings = {4, 0, 2, 2, 7, 3};
        for (int i = 0; i < 6; i++) {
            x.set(i, settings[i]);
        }
        Check.submit(x, 1, "*");
        check.says(10, "`what`: 0 to 5 for the setting with this number (SIDES as it counts), 6 for its document, 7 for "
            + "the number of pages in its list, 8 for the number of its sheets, 9 for its state, 10 for its next sheet, "
            + "11 for its rank now");
        int[] due = {4, 0, 2, 2, 7, 3, 1, 9, 12, 0, 0, 70};
        for (int what = 0; what <= 11; what++) {
            check.due("about(0," + what + ")", x.about(0, what), due[what]);
        }
        x.promote(0, 9);
        check.due("about(0,4)", x.about(0, 4), 9);
        x.addPrinter(1, 20, 1);
        x.fill(0, 1, 20);
        x.advance(1);
        check.due("PRINTING", x.about(0, 9), 1);
        // both sides are printed, in 2 ticks each
        x.advance(8);
        check.due("next sheet", x.about(0, 10), 2);
        x.set(PrintSpooler.LAYOUT, 0);
        for (int sides = 0; sides <= 2; sides++) {
            x.set(PrintSpooler.SIDES, sides);
            Check.submit(x, 0, "*");
            check.due("SIDES of a booklet", x.about(1 + sides, 2), sides);
            check.due("LAYOUT of a booklet", x.about(1 + sides, 3), 0);
        }
        check.says(10, "`job`: the job");
        check.due("about(3,6)", x.about(3, 6), 0);
        check.due("about(0,6)", x.about(0, 6), 1);
    }

    private static void ranks(Check check) {
        check.says(10, "Returns the property (for 11, NONE if it is not WAITING); NO_SUCH if there is no such job; "
            + "BAD_VALUE if what is not 0 to 11.");
        PrintSpooler x = Make.printing("*");
        check.due("WAITING", x.about(0, 11), 50);
        x.advance(1);
        check.due("PRINTING", x.about(0, 11), -6);
        x.hold(0);
        check.due("PRINTING with a request", x.about(0, 11), -6);
        x.advance(7);
        check.due("HELD", x.about(0, 11), -6);
        x.release(0);
        check.due("WAITING again", x.about(0, 11), 50);
        x.advance(22);
        check.due("DONE", x.about(0, 9), 3);
        check.due("rank of a DONE job", x.about(0, 11), -6);
        check.due("next sheet of a DONE job", x.about(0, 10), 4);
        Check.submit(x, 0, "*");
        x.cancel(1);
        check.due("CANCELED", x.about(1, 11), -6);
        check.due("state", x.about(1, 9), 4);
        x.set(PrintSpooler.PRIORITY, 0);
        Check.submit(x, 0, "*");
        check.due("the least rank", x.about(2, 11), 0);
    }

    private static void aboutErrors(Check check) {
        check.says(10, "Returns the property (for 11, NONE if it is not WAITING); NO_SUCH if there is no such job; "
            + "BAD_VALUE if what is not 0 to 11.");
        PrintSpooler x = Make.printing("*");
        int[] noJobs = {-1, 1, 23, 24, LEAST, GREATEST};
        for (int job : noJobs) {
            check.due("about(" + job + ",0)", x.about(job, 0), -1);
            check.due("about(" + job + ",11)", x.about(job, 11), -1);
            check.due("about(" + job + ",12)", x.about(job, 12), -1);
        }
        int[] noProperties = {-1, 12, LEAST, GREATEST};
        for (int what : noProperties) {
            check.due("about(0," + what + ")", x.about(0, what), -2);
        }
    }
}
