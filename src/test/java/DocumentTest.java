/** Promises 1 to 3: a new object, documents and weights. */
public final class DocumentTest {
    private static final int LEAST = Integer.MIN_VALUE, GREATEST = Integer.MAX_VALUE;

    public static void main(String[] args) {
        Check check = new Check();
        newObject(check);
        ranges(check);
        adding(check);
        properties(check);
        weights(check);
        weightErrors(check);
        check.end();
    }

    private static void newObject(Check check) {
        check.says(1, "Creates a spooler without documents, jobs and printers.");
        PrintSpooler x = new PrintSpooler();
        for (int what = 0; what <= 6; what++) {
            check.due("count(" + what + ")", x.count(what), 0);
        }
        check.due("weight(0,1)", x.weight(0, 1), -1);
        check.due("about(0,0)", x.about(0, 0), -1);
        check.due("printer(0,0)", x.printer(0, 0), -1);
        check.due("fill(0,0,0)", x.fill(0, 0, 0), -1);
        check.due("log(0,0)", x.log(0, 0), -6);
        check.due("fault()", x.fault(), 0);
        check.due("finisher(0,3000)", x.finisher(0, 3000), -6);
        check.due("restore(0)", x.restore(0), -5);
        check.due("restore(1)", x.restore(1), -5);
        check.due("advance(1000)", x.advance(1000), 1000);
        check.due("nothing is printed", x.count(4), 0);
        PrintSpooler y = Make.printing("*");
        y.advance(50);
        y.save(0);
        PrintSpooler z = new PrintSpooler();
        check.due("one object and another", z.count(0) + z.count(1) + z.count(2) + z.count(3) + z.count(4), 0);
        check.due("the slot of another object", z.restore(0), -5);
    }

    /** Values of one argument, the others being 1: accepted ones, then refused ones. */
    private static void range(Check check, int argument, int[] accepted, int[] refused) {
        for (int value : accepted) {
            check.due("value " + value, add(new PrintSpooler(), argument, value), 0);
        }
        PrintSpooler x = new PrintSpooler();
        for (int value : refused) {
            check.due("value " + value, add(x, argument, value), -2);
        }
        check.due("no document came of it", x.count(0), 0);
    }

    private static int add(PrintSpooler x, int argument, int value) {
        int[] a = {1, 1, 1, 1, 1};
        a[argument] = value;
        return x.addDocument(a[0], a[1], a[2], a[3], a[4]);
    }

    private static void ranges(Check check) {
        check.says(2, "`pages`: number of pages, 1 to 400");
        range(check, 0, new int[] {1, 2, 399, 400}, new int[] {0, -1, 401, LEAST, GREATEST});
        check.says(2, "`size`: paper size, 0 to 2");
        range(check, 1, new int[] {0, 1, 2}, new int[] {-1, 3, LEAST, GREATEST});
        check.says(2, "`base`: 1 to 500");
        range(check, 2, new int[] {1, 500}, new int[] {0, -1, 501, LEAST, GREATEST});
        check.says(2, "`step`: 0 to 50");
        range(check, 3, new int[] {0, 1, 50}, new int[] {-1, 51, LEAST, GREATEST});
        check.says(2, "`span`: 1 to 500");
        range(check, 4, new int[] {1, 500}, new int[] {0, -1, 501, LEAST, GREATEST});
    }

    private static void adding(Check check) {
        check.says(2, "Adds a document.");
        PrintSpooler x = new PrintSpooler();
        check.due("addDocument", x.addDocument(400, 2, 500, 50, 500), 0);
        check.due("count(0)", x.count(0), 1);
        check.says(2, "Returns its number; BAD_VALUE if an argument is out of range; TOO_MANY if there are 10 documents.");
        for (int i = 1; i < 9; i++) {
            check.due("addDocument", x.addDocument(i, 0, 1, 0, 1), i);
        }
        check.due("a bad tenth", x.addDocument(1, 0, 1, 0, 501), -2);
        check.says(0, "Up to 10 documents can be added.");
        check.due("the tenth", x.addDocument(1, 0, 1, 0, 1), 9);
        check.due("the eleventh", x.addDocument(1, 0, 1, 0, 1), -4);
        check.due("the eleventh again", x.addDocument(400, 2, 500, 50, 500), -4);
        check.says(2, "Returns its number; BAD_VALUE if an argument is out of range; TOO_MANY if there are 10 documents.");
        for (int argument = 0; argument < 5; argument++) {
            check.due("an eleventh with a bad value", add(x, argument, 501), -2);
        }
        check.due("count(0)", x.count(0), 10);
        check.due("the last one stays", x.weight(9, 1), 1);
        check.due("the one before it stays", x.weight(8, 8), 1);
    }

    private static void properties(Check check) {
        check.says(0, "A document has a number of pages, a paper size, 0 to 2, and numbers base, step and span.");
        PrintSpooler x = new PrintSpooler();
        x.addDocument(7, 1, 100, 3, 10);
        x.addDocument(9, 2, 200, 4, 20);
        check.due("pages of 0", Check.listed(x, 0, "*"), "1 2 3 4 5 6 7");
        check.due("pages of 1", Check.listed(x, 1, "*"), "1 2 3 4 5 6 7 8 9");
        check.due("weight of 0", x.weight(0, 4), 102);
        check.due("weight of 1", x.weight(1, 6), 204);
        x.addPrinter(1, 2000, 1);
        for (int size = 0; size < 3; size++) {
            x.fill(0, size, 9);
        }
        Check.submit(x, 0, "1");
        x.advance(3);
        Check.submit(x, 1, "1");
        x.advance(1);
        check.due("tray 0", x.printer(0, 0), 9);
        check.due("tray 1", x.printer(0, 1), 8);
        check.due("tray 2", x.printer(0, 2), 8);
    }

    private static void weights(Check check) {
        check.says(0, "The weight of its page p is base + (p * step) % span.");
        PrintSpooler x = new PrintSpooler();
        x.addDocument(10, 0, 10, 3, 7);
        x.addDocument(400, 1, 500, 50, 499);
        x.addDocument(400, 1, 500, 50, 500);
        x.addDocument(3, 0, 5, 0, 500);
        x.addDocument(3, 0, 5, 50, 1);
        int[] due = {13, 16, 12, 15, 11, 14, 10, 13, 16, 12};
        for (int page = 1; page <= 10; page++) {
            check.due("weight(0," + page + ")", x.weight(0, page), due[page - 1]);
        }
        check.due("just below the span", x.weight(1, 9), 950);
        check.due("beyond the span", x.weight(1, 10), 501);
        check.due("the span itself", x.weight(2, 10), 500);
        check.due("many spans", x.weight(1, 400), 500 + 20000 % 499);
        check.due("step 0", x.weight(3, 3), 5);
        check.due("span 1", x.weight(4, 3), 5);
        check.says(3, "Returns the weight of a page.");
        check.due("weight(0,1)", x.weight(0, 1), 13);
        check.due("weight(3,1)", x.weight(3, 1), 5);
    }

    private static void weightErrors(Check check) {
        check.says(3, "`document`: the document");
        PrintSpooler x = new PrintSpooler();
        check.due("without documents", x.weight(0, 1), -1);
        x.addDocument(1, 0, 10, 3, 7);
        x.addDocument(400, 0, 20, 3, 7);
        check.due("weight(0,1)", x.weight(0, 1), 13);
        check.due("weight(1,1)", x.weight(1, 1), 23);
        check.says(3, "Returns its weight; NO_SUCH if there is no such document; BAD_VALUE if it has no such page.");
        int[] noDocuments = {-1, 2, 9, 10, LEAST, GREATEST};
        for (int document : noDocuments) {
            check.due("weight(" + document + ",1)", x.weight(document, 1), -1);
            check.due("weight(" + document + ",0)", x.weight(document, 0), -1);
        }
        check.says(0, "Pages are numbered from 1.");
        check.due("weight(0,0)", x.weight(0, 0), -2);
        check.due("weight(0,1)", x.weight(0, 1), 13);
        check.says(3, "`page`: the page");
        int[] noPages = {-1, 0, 401, LEAST, GREATEST};
        for (int page : noPages) {
            check.due("weight(0," + page + ")", x.weight(0, page), -2);
            check.due("weight(1," + page + ")", x.weight(1, page), -2);
        }
        check.due("weight(0,2)", x.weight(0, 2), -2);
        check.due("weight(1,400)", x.weight(1, 400), 20 + 1200 % 7);
    }
}
