/** Counts and prints the answers that are not due; every test makes one and ends with end(). */
final class Check {
    private static final int MOST_PRINTED = 40;

    private int wrong = 0;
    private int section = 0;
    private String sentence = "";

    /**
     * From here on the checks are about this sentence of the document, in the section of this promise (0: the
     * Description). SentenceTest looks whether it stands there, and whether every sentence there has such checks.
     */
    void says(int inSection, String words) {
        section = inSection;
        sentence = words;
    }

    void due(String call, long got, long want) {
        if (got != want) {
            report(call, "" + got, "" + want);
        }
    }

    void due(String call, String got, String want) {
        if (!got.equals(want)) {
            report(call, got, want);
        }
    }

    private void report(String call, String got, String want) {
        wrong++;
        if (wrong <= MOST_PRINTED) {
            String where = section == 0 ? "Description" : "promise " + section;
            String about = sentence.isEmpty() ? "" : where + ", \"" + sentence + "\": ";
            System.out.println(about + call + " answered " + got + ", due is " + want);
        }
    }

    void end() {
        if (wrong != 0) {
            System.out.println(wrong + " answers are not due");
            System.exit(1);
        }
    }

    /** Puts a text in place of the present one. */
    static void text(PrintSpooler x, String text) {
        x.wipe();
        for (int i = 0; i < text.length(); i++) {
            x.say(text.charAt(i));
        }
    }

    /** Submits a job with the pages of a text. */
    static int submit(PrintSpooler x, int document, String text) {
        text(x, text);
        return x.submit(document);
    }

    /** The list that a text describes, or its error. */
    static String listed(PrintSpooler x, int document, String text) {
        text(x, text);
        int size = x.listed(document, -1);
        if (size < 0) {
            return "error " + size;
        }
        StringBuilder pages = new StringBuilder();
        for (int i = 0; i < size; i++) {
            pages.append(i == 0 ? "" : " ").append(x.listed(document, i));
        }
        return pages.toString();
    }

    static String canonical(PrintSpooler x, int job) {
        StringBuilder text = new StringBuilder();
        int length = x.canonical(job, -1);
        for (int i = 0; i < length; i++) {
            text.append((char) x.canonical(job, i));
        }
        return text.toString();
    }

    /** A side of a sheet as its pages, blanks as "_". */
    static String side(PrintSpooler x, int job, int sheet, int side) {
        StringBuilder pages = new StringBuilder();
        for (int position = 0; position < 4; position++) {
            int page = x.page(job, sheet, side, position);
            if (page >= 0) {
                pages.append(position == 0 ? "" : " ").append(page == 0 ? "_" : "" + page);
            }
        }
        return pages.toString();
    }
}
