/** The four examples of the document. */
public final class ExamplesTest {
    public static void main(String[] args) {
        Check check = new Check();
        range(check);
        booklet(check);
        printing(check);
        errors(check);
        check.end();
    }

    private static void range(Check check) {
        PrintSpooler x = new PrintSpooler();
        check.due("addDocument", x.addDocument(10, 0, 10, 3, 7), 0);
        check.due("say", x.say(55), 1);
        check.due("say", x.say(45), 2);
        check.due("say", x.say(51), 3);
        check.due("say", x.say(111), 4);
        check.due("fault", x.fault(), -6);
        check.due("listed", x.listed(0, -1), 3);
        check.due("listed", x.listed(0, 0), 7);
        check.due("submit", x.submit(0), 0);
        check.due("about", x.about(0, 8), 3);
        check.due("page", x.page(0, 1, 0, 0), 5);
        check.due("canonical", x.canonical(0, -1), 4);
    }

    private static void booklet(Check check) {
        PrintSpooler x = new PrintSpooler();
        check.due("addDocument", x.addDocument(5, 0, 10, 0, 1), 0);
        check.due("set", x.set(3, 0), 1);
        check.due("say", x.say(42), 1);
        check.due("submit", x.submit(0), 0);
        check.due("about", x.about(0, 8), 2);
        check.due("page", x.page(0, 0, 0, 0), 0);
        check.due("page", x.page(0, 0, 0, 1), 1);
        check.due("page", x.page(0, 1, 1, 1), 5);
        check.due("where", x.where(0, 3, 0), 1);
        check.due("turned", x.turned(0, 1), 180);
        check.due("blanks", x.blanks(0), 3);
    }

    private static void printing(Check check) {
        PrintSpooler x = new PrintSpooler();
        check.due("addDocument", x.addDocument(4, 0, 13, 0, 1), 0);
        check.due("addPrinter", x.addPrinter(5, 20, 1), 0);
        check.due("fill", x.fill(0, 0, 9), 9);
        check.due("say", x.say(42), 1);
        check.due("submit", x.submit(0), 0);
        check.due("side", x.side(0, 0, 0, 0, 1), 2);
        check.due("duration", x.duration(0, 0), 28);
        check.due("finish", x.finish(0, 100), 29);
        check.due("advance", x.advance(1), 1);
        check.due("about", x.about(0, 9), 1);
        check.due("advance", x.advance(7), 8);
        check.due("about", x.about(0, 10), 1);
        check.due("log", x.log(0, 0), 8);
        check.due("jam", x.jam(0), 1);
        check.due("about", x.about(0, 9), 0);
    }

    private static void errors(Check check) {
        PrintSpooler x = new PrintSpooler();
        check.due("addDocument", x.addDocument(4, 0, 13, 0, 1), 0);
        check.due("say", x.say(51), 1);
        check.due("say", x.say(45), 2);
        check.due("say", x.say(45), 3);
        check.due("fault", x.fault(), 2);
        check.due("listed", x.listed(0, -1), -3);
        check.due("submit", x.submit(0), -3);
        check.due("wipe", x.wipe(), 3);
        check.due("advance", x.advance(0), -2);
        check.due("restore", x.restore(1), -5);
        check.due("page", x.page(0, 0, 0, 0), -1);
    }
}
