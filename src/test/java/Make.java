/** Objects that tests begin with. */
final class Make {
    private Make() { }

    /** Document 0, with so many pages of weight 13, on paper of a size. */
    static PrintSpooler document(int pages, int size) {
        PrintSpooler x = new PrintSpooler();
        x.addDocument(pages, size, 13, 0, 1);
        return x;
    }

    /** A printer with 20 sheets that takes 7 ticks a sheet, and a job of a document with 4 pages. */
    static PrintSpooler printing(String text) {
        PrintSpooler x = document(4, 0);
        x.addPrinter(5, 20, 0);
        x.fill(0, 0, 20);
        Check.submit(x, 0, text);
        return x;
    }

    /** One that printed so many sheets, the last of them in the last tick; it needs two ticks a sheet. */
    static PrintSpooler printed(int sheets) {
        PrintSpooler x = new PrintSpooler();
        x.addDocument(400, 0, 1, 0, 1);
        x.addPrinter(1, 20, 0);
        x.fill(0, 0, 500);
        x.set(PrintSpooler.COPIES, 10);
        Check.submit(x, 0, "*");
        if (sheets > 0) {
            x.advance(1 + 2 * sheets);
        }
        return x;
    }
}
