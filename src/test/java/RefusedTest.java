import java.lang.reflect.Method;

/** Every call that is refused: its error, the first that applies, and that nothing is changed by it. */
public final class RefusedTest {
    private static final String ORDER = "A method that fails returns one of the error codes NO_SUCH (-1), BAD_VALUE (-2), "
        + "BAD_TEXT (-3), TOO_MANY (-4) and NOT_POSSIBLE (-5) and changes nothing; it names its errors in the order in "
        + "which they are checked, and the first that applies is returned.";
    private static final String NO_ERROR = "NONE (-6) is not an error; it is returned only if no error applies.";

    /** For an object with 3 documents, 5 jobs (0 PRINTING, 1 WAITING, 2 HELD, 3 DONE, 4 CANCELED), 2 printers. */
    private static final String REFUSED = """
        addDocument 0 0 1 0 1 = -2
        addDocument 401 0 1 0 1 = -2
        addDocument 1 -1 1 0 1 = -2
        addDocument 1 3 1 0 1 = -2
        addDocument 1 0 0 0 1 = -2
        addDocument 1 0 501 0 1 = -2
        addDocument 1 0 1 -1 1 = -2
        addDocument 1 0 1 51 1 = -2
        addDocument 1 0 1 0 0 = -2
        addDocument 1 0 1 0 501 = -2
        weight -1 1 = -1
        weight 3 1 = -1
        weight 3 0 = -1
        weight 0 0 = -2
        weight 0 5 = -2
        say 32 = -2
        say 127 = -2
        listed -1 0 = -1
        listed 3 0 = -1
        listed 3 99 = -1
        set -1 1 = -2
        set 6 1 = -2
        set 0 0 = -2
        set 0 11 = -2
        set 1 -1 = -2
        set 1 2 = -2
        set 2 -1 = -2
        set 2 3 = -2
        set 3 -1 = -2
        set 3 3 = -2
        set 3 5 = -2
        set 4 -1 = -2
        set 4 10 = -2
        set 5 -1 = -2
        set 5 6 = -2
        submit -1 = -1
        submit 3 = -1
        submit 1 = -5
        about -1 0 = -1
        about 5 0 = -1
        about 5 12 = -1
        about 0 -1 = -2
        about 0 12 = -2
        page -1 0 0 0 = -1
        page 5 0 0 0 = -1
        page 0 -1 0 0 = -1
        page 0 4 0 0 = -1
        page 0 4 1 9 = -1
        page 0 0 1 0 = -2
        page 0 0 -1 0 = -2
        page 0 0 0 -1 = -2
        page 0 0 0 1 = -2
        turned -1 0 = -1
        turned 5 2 = -1
        turned 0 -1 = -2
        turned 0 1 = -2
        blanks -1 = -1
        blanks 5 = -1
        where -1 0 0 = -1
        where 5 9 9 = -1
        where 0 -1 0 = -2
        where 0 4 0 = -2
        where 0 0 -1 = -2
        where 0 0 3 = -2
        canonical -1 0 = -1
        canonical 5 99 = -1
        addPrinter 0 1 0 = -2
        addPrinter 51 1 0 = -2
        addPrinter 1 0 0 = -2
        addPrinter 1 2001 0 = -2
        addPrinter 1 1 -1 = -2
        addPrinter 1 1 2 = -2
        fill -1 0 1 = -1
        fill 2 0 1 = -1
        fill 2 9 999 = -1
        fill 0 -1 1 = -2
        fill 0 3 1 = -2
        fill 0 0 501 = -2
        fill 0 0 -501 = -2
        fill 0 0 483 = -5
        fill 0 0 -19 = -5
        fill 0 2 -1 = -5
        printer -1 0 = -1
        printer 2 0 = -1
        printer 2 7 = -1
        printer 0 -1 = -2
        printer 0 7 = -2
        side -1 0 0 0 0 = -1
        side 5 0 0 0 0 = -1
        side 0 -1 0 0 0 = -1
        side 0 4 0 0 0 = -1
        side 0 0 0 -1 0 = -1
        side 0 0 0 2 0 = -1
        side 0 0 1 2 3 = -1
        side 0 0 -1 0 0 = -2
        side 0 0 1 0 0 = -2
        side 0 0 0 0 -1 = -2
        side 0 0 0 0 3 = -2
        duration -1 0 = -1
        duration 5 0 = -1
        duration 0 -1 = -1
        duration 0 2 = -1
        setRules 0 5 = -2
        setRules 1001 5 = -2
        setRules 5 -1 = -2
        setRules 5 1001 = -2
        setQuota -1 1 = -1
        setQuota 6 1 = -1
        setQuota 6 -1 = -1
        setQuota 0 -1 = -2
        setQuota 0 10001 = -2
        promote -1 1 = -1
        promote 5 1 = -1
        promote 5 10 = -1
        promote 0 -1 = -2
        promote 0 10 = -2
        promote 3 10 = -2
        promote 4 -1 = -2
        promote 3 1 = -5
        promote 4 1 = -5
        hold -1 = -1
        hold 5 = -1
        hold 2 = -5
        hold 3 = -5
        hold 4 = -5
        release -1 = -1
        release 5 = -1
        release 0 = -5
        release 1 = -5
        release 3 = -5
        release 4 = -5
        cancel -1 = -1
        cancel 5 = -1
        cancel 3 = -5
        cancel 4 = -5
        jam -1 = -1
        jam 2 = -1
        jam 1 = -5
        clear -1 = -1
        clear 2 = -1
        clear 0 = -5
        advance 0 = -2
        advance 1001 = -2
        log 0 -1 = -2
        log 0 4 = -2
        log 99 4 = -2
        printed -1 = -1
        printed 6 = -1
        finish -1 1 = -1
        finish 5 1 = -1
        finish 5 0 = -1
        finish 0 0 = -2
        finish 3 3001 = -2
        urgency -1 1 = -1
        urgency 5 1 = -1
        urgency 5 1001 = -1
        urgency 1 0 = -2
        urgency 3 0 = -2
        urgency 4 1001 = -2
        urgency 3 1 = -5
        urgency 4 1 = -5
        finisher 0 0 = -2
        finisher 0 3001 = -2
        finisher -1 0 = -2
        finisher 99 3001 = -2
        count -1 = -2
        count 7 = -2
        save -1 = -2
        save 2 = -2
        restore -1 = -2
        restore 2 = -2
        restore 1 = -5
        """;

    private static final String NONE_OF_IT = """
        listed 0 4 = -6
        listed 0 -2 = -6
        about 0 11 = -6
        about 2 11 = -6
        canonical 0 3 = -6
        canonical 0 -3 = -6
        printer 1 4 = -6
        printer 1 5 = -6
        log -1 0 = -6
        log 99 3 = -6
        finish 2 3000 = -6
        finish 4 3000 = -6
        urgency 2 1000 = -6
        urgency 0 1 = -6
        finisher -1 3000 = -6
        finisher 24 3000 = -6
        finisher 0 1 = -6
        """;

    /** For the full object, whose text is correct, with 40 characters. */
    private static final String REFUSED_BY_FULL = """
        addDocument 1 0 1 0 1 = -4
        addDocument 1 0 1 0 501 = -2
        say 49 = -4
        say 32 = -2
        submit -1 = -1
        submit 10 = -1
        submit 0 = -4
        submit 9 = -4
        addPrinter 1 1 0 = -4
        addPrinter 1 1 2 = -2
        fill 0 0 1 = -5
        fill 0 0 501 = -2
        fill 3 0 1 = -1
        """;

    public static void main(String[] args) throws ReflectiveOperationException {
        Check check = new Check();
        check.says(0, ORDER);
        refused(check, REFUSED, false, "2-");
        refused(check, REFUSED_BY_FULL, true, "1,1,1,1,1,1,1,1,1,1,1,1,1,1,1,1,1,1,11-5");
        texts(check);
        check.says(0, NO_ERROR);
        refused(check, NONE_OF_IT, false, "-4");
        firstOfTwo(check);
        check.end();
    }

    /** The errors of texts and lists, which depend on the text. */
    private static void texts(Check check) throws ReflectiveOperationException {
        refused(check, "listed 0 -1 = -3\nlisted 0 99 = -3\nlisted 3 0 = -1\nsubmit 0 = -3\nsubmit 3 = -1\n", false, "");
        refused(check, "listed 2 0 = -3\nsubmit 2 = -3\nsubmit 1 = -3\nsubmit 3 = -1\n", false, "*,1,!*x");
        refused(check, "listed 2 0 = -4\nlisted 2 400 = -4\nsubmit 2 = -4\nsubmit 3 = -1\n", false, "*,1,!*");
        refused(check, "submit 0 = -5\nsubmit 2 = -5\nsubmit 1 = -5\n", false, "*,!*");
        refused(check, "submit 0 = -3\nsubmit 9 = -3\nsay 49 = -4\n", true, "1,1,1,1,1,1,1,1,1,1,1,1,1,1,1,1,1,1,1111-");
        refused(check, "submit 0 = -4\nsubmit 1 = -4\nlisted 2 0 = -4\n", true, "*,1");
        refused(check, "submit 0 = -4\nsubmit 1 = -4\nlisted 1 0 = -6\n", true, "!*");
    }

    private static void refused(Check check, String rows, boolean full, String text)
            throws ReflectiveOperationException {
        PrintSpooler untouched = full ? full(text) : rich(text);
        String story = story(untouched);
        for (String row : rows.strip().split("\n")) {
            PrintSpooler x = full ? full(text) : rich(text);
            String[] words = row.strip().split(" ");
            check.due(row + " with the text '" + text + "'", call(x, words), Integer.parseInt(words[words.length - 1]));
            check.due("all after " + row, story(x), story);
        }
    }

    /** The call of a row: its name and its arguments, before "=". */
    private static int call(PrintSpooler x, String[] words) throws ReflectiveOperationException {
        Class<?>[] types = new Class<?>[words.length - 3];
        Object[] arguments = new Object[words.length - 3];
        for (int i = 0; i < arguments.length; i++) {
            types[i] = int.class;
            arguments[i] = Integer.parseInt(words[1 + i]);
        }
        Method method = PrintSpooler.class.getMethod(words[0], types);
        return (int) method.invoke(x, arguments);
    }

    private static PrintSpooler rich(String text) {
        PrintSpooler x = new PrintSpooler();
        x.addDocument(4, 0, 13, 0, 1);
        x.addDocument(10, 2, 20, 3, 9);
        x.addDocument(400, 1, 20, 3, 9);
        x.addPrinter(5, 20, 0);
        x.addPrinter(3, 9, 1);
        x.fill(0, 0, 20);
        x.fill(1, 1, 20);
        x.fill(1, 0, 7);
        x.setRules(1000, 10);
        x.save(0);
        // Jobs of a past that is undone.
        for (int job = 0; job < 4; job++) {
            Check.submit(x, 2, "-4");
        }
        x.restore(0);
        Check.submit(x, 0, "*");
        x.set(PrintSpooler.PRIORITY, 6);
        x.set(PrintSpooler.USER, 2);
        Check.submit(x, 0, "3-1");
        x.hold(1);
        Check.submit(x, 0, "2");
        x.hold(2);
        x.hold(0);
        Check.submit(x, 0, "4");
        x.advance(8);
        Check.submit(x, 0, "4");
        x.cancel(4);
        x.release(0);
        x.fill(1, 0, -6);
        x.advance(1);
        x.jam(1);
        x.advance(1);
        x.release(1);
        x.set(PrintSpooler.COPIES, 2);
        x.set(PrintSpooler.LAYOUT, PrintSpooler.BOOKLET);
        x.setQuota(3, 77);
        Check.text(x, text);
        return x;
    }

    private static PrintSpooler full(String text) {
        PrintSpooler x = new PrintSpooler();
        x.addDocument(400, 0, 13, 0, 1);
        x.addDocument(10, 2, 20, 3, 9);
        for (int i = 2; i < 10; i++) {
            x.addDocument(400, 0, 13, 0, 1);
        }
        x.save(0);
        for (int i = 0; i < 3; i++) {
            x.addPrinter(5, 20, 0);
            x.fill(i, 1, 500);
        }
        x.fill(0, 0, 500);
        for (int job = 0; job < 24; job++) {
            Check.submit(x, 0, "" + (1 + job % 9));
        }
        x.set(PrintSpooler.LAYOUT, PrintSpooler.BOOKLET);
        Check.text(x, text);
        return x;
    }

    /** What all is and comes to be: answers of calls that show the state, let it go on, and restore. */
    private static String story(PrintSpooler x) {
        StringBuilder all = new StringBuilder();
        numbers(x, all);
        for (int setting = 0; setting <= 5; setting++) {
            all.append(x.set(setting, 1)).append(' ');
        }
        all.append(x.fault()).append(' ').append(x.listed(0, -1)).append(' ').append(x.listed(0, 0)).append(' ');
        all.append(x.wipe()).append(' ').append(x.weight(2, 1)).append('\n');
        for (int user = 0; user <= 5; user++) {
            all.append(x.setQuota(user, 9000)).append(' ').append(x.printed(user)).append(' ');
        }
        printers(x, all);
        jobs(x, all);
        x.clear(1);
        x.release(2);
        all.append(x.advance(45)).append(' ');
        printers(x, all);
        jobs(x, all);
        int sheets = x.count(4);
        for (int number = 0; number < 15 && number < sheets; number++) {
            all.append(x.log(number, 0)).append(' ').append(x.log(number, 2)).append(' ').append(x.log(number, 3));
            all.append('\n');
        }
        all.append(x.setRules(20, 1000)).append(' ').append(x.restore(1)).append(' ').append(x.restore(0)).append(' ');
        numbers(x, all);
        return all.toString();
    }

    private static void numbers(PrintSpooler x, StringBuilder all) {
        for (int what = 0; what <= 6; what++) {
            all.append(x.count(what)).append(' ');
        }
    }

    private static void printers(PrintSpooler x, StringBuilder all) {
        for (int printer = 0; printer < 3; printer++) {
            for (int what = 0; what <= 6; what++) {
                all.append(x.printer(printer, what)).append(' ');
            }
        }
    }

    private static void jobs(PrintSpooler x, StringBuilder all) {
        int jobs = x.count(1);
        for (int job = 0; job < jobs; job++) {
            all.append(x.about(job, 9)).append(' ').append(x.about(job, 10)).append(' ').append(x.about(job, 11));
            all.append('\n');
        }
        for (int job = 0; job < 5; job++) {
            all.append(x.about(job, 4)).append(' ').append(x.canonical(job, -1)).append('\n');
        }
    }

    /** Where several errors apply at once: the first that the method names. */
    private static void firstOfTwo(Check check) {
        check.says(0, ORDER);
        PrintSpooler x = new PrintSpooler();
        int[] harsh = {-7, 12345, Integer.MIN_VALUE, Integer.MAX_VALUE};
        for (int h : harsh) {
            check.due("weight", x.weight(h, h), -1);
            check.due("listed", x.listed(h, h), -1);
            check.due("submit", x.submit(h), -1);
            check.due("set", x.set(h, h), -2);
            check.due("about", x.about(h, h), -1);
            check.due("page", x.page(h, h, h, h), -1);
            check.due("turned", x.turned(h, h), -1);
            check.due("where", x.where(h, h, h), -1);
            check.due("canonical", x.canonical(h, h), -1);
            check.due("fill", x.fill(h, h, h), -1);
            check.due("printer", x.printer(h, h), -1);
            check.due("side", x.side(h, h, h, h, h), -1);
            check.due("duration", x.duration(h, h), -1);
            check.due("setRules", x.setRules(h, h), -2);
            check.due("setQuota", x.setQuota(h, h), -1);
            check.due("promote", x.promote(h, h), -1);
            check.due("log", x.log(h, h), -2);
            check.due("finish", x.finish(h, h), -1);
            check.due("urgency", x.urgency(h, h), -1);
            check.due("finisher", x.finisher(h, h), -2);
            check.due("addDocument", x.addDocument(h, h, h, h, h), -2);
            check.due("addPrinter", x.addPrinter(h, h, h), -2);
        }
        for (int what = 0; what <= 6; what++) {
            check.due("count(" + what + ")", x.count(what), 0);
        }
    }
}
