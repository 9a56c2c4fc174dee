/** Promises 4 to 7: the text, its fault and the list that it describes. */
public final class TextTest {
    public static void main(String[] args) {
        Check check = new Check();
        saying(check);
        faults(check);
        lists(check);
        listErrors(check);
        check.end();
    }

    private static void saying(Check check) {
        PrintSpooler x = new PrintSpooler();
        check.promise(4);
        check.due("say(32)", x.say(32), -2);
        check.due("say(127)", x.say(127), -2);
        check.due("say(-1)", x.say(-1), -2);
        for (int i = 1; i <= 40; i++) {
            check.due("say", x.say(i == 1 ? 33 : 126), i);
        }
        check.due("the 41st", x.say(50), -4);
        check.due("a bad 41st", x.say(32), -2);
        check.due("count(5)", x.count(5), 40);
        check.promise(5);
        check.due("wipe()", x.wipe(), 40);
        check.due("wipe()", x.wipe(), 0);
        check.due("count(5)", x.count(5), 0);
        check.due("say(42)", x.say(42), 1);
        check.due("fault()", x.fault(), -6);
    }

    private static void fault(Check check, String text, int want) {
        PrintSpooler x = new PrintSpooler();
        Check.text(x, text);
        check.due("fault() of '" + text + "'", x.fault(), want);
    }

    private static void faults(Check check) {
        check.promise(6);
        String[] correct = {"*", "*o", "*e", "!*", "!*e", "1", "12", "999", "100o", "5-", "5-e", "-5", "-999o", "!-7",
            "3-9", "9-3e", "999-999", "1,2,!3-,-4o,*", "10-20,!15", "400-1"};
        for (String text : correct) {
            fault(check, text, -6);
        }
        String[] tooEarly = {"", "!", "-", "!-", "1,", "*,", "1,!", "1-2,-", "*o,"};
        for (String text : tooEarly) {
            fault(check, text, text.length());
        }
        fault(check, ",", 0);
        fault(check, "0", 0);
        fault(check, "o", 0);
        fault(check, "a", 0);
        fault(check, "!!", 1);
        fault(check, "!,", 1);
        fault(check, "!o", 1);
        fault(check, "**", 1);
        fault(check, "*1", 1);
        fault(check, "*-", 1);
        fault(check, "*!", 1);
        fault(check, "1000", 3);
        fault(check, "1!", 1);
        fault(check, "1*", 1);
        fault(check, "3--", 2);
        fault(check, "-0", 1);
        fault(check, "--", 1);
        fault(check, "-o", 1);
        fault(check, "-,", 1);
        fault(check, "3-0", 2);
        fault(check, "3-!", 2);
        fault(check, "3-4-", 3);
        fault(check, "-4-", 2);
        fault(check, "3-1000", 5);
        fault(check, "-1000", 4);
        fault(check, "1oe", 2);
        fault(check, "1o1", 2);
        fault(check, "1o-", 2);
        fault(check, "1,,2", 2);
        fault(check, "1,0", 2);
        fault(check, "1x,0", 1);
        fault(check, "1,2,3x", 5);
        fault(check, "1O", 1);
        // the greatest length does not matter
        fault(check, "1,1,1,1,1,1,1,1,1,1,1,1,1,1,1,1,1,1,1,1,", 40);
        fault(check, "111,111,111,111,111,111,111,111,111,111-", -6);
    }

    private static void list(Check check, String text, String want) {
        PrintSpooler x = new PrintSpooler();
        x.addDocument(10, 0, 1, 0, 1);
        check.due("the list of '" + text + "'", Check.listed(x, 0, text), want);
    }

    private static void lists(Check check) {
        check.promise(7);
        list(check, "*", "1 2 3 4 5 6 7 8 9 10");
        list(check, "*o", "1 3 5 7 9");
        list(check, "*e", "2 4 6 8 10");
        list(check, "7", "7");
        list(check, "7o", "7");
        list(check, "7e", "");
        list(check, "11", "");
        list(check, "8-", "8 9 10");
        list(check, "10-", "10");
        list(check, "11-", "");
        list(check, "999-", "");
        list(check, "-3", "1 2 3");
        list(check, "-999e", "2 4 6 8 10");
        list(check, "3-5", "3 4 5");
        list(check, "5-3", "5 4 3");
        list(check, "4-4", "4");
        list(check, "12-9", "10 9");
        list(check, "9-12", "9 10");
        list(check, "12-11", "");
        list(check, "7-3o", "7 5 3");
        list(check, "8-3o", "7 5 3");
        list(check, "999-8e", "10 8");
        list(check, "1,1,1", "1 1 1");
        list(check, "*,!2-9", "1 10");
        list(check, "*,!9-2", "1 10");
        list(check, "*,!*o", "2 4 6 8 10");
        list(check, "*,!*", "");
        list(check, "!*", "");
        list(check, "!3,3", "3");
        list(check, "3,4,3,!3,5,3", "4 5 3");
        list(check, "-4,-4,!2-e,7", "1 3 1 3 7");
        list(check, "*,!-8", "9 10");
        list(check, "*,!12", "1 2 3 4 5 6 7 8 9 10");
        list(check, "*,!7-,!1", "2 3 4 5 6");
    }

    private static void listErrors(Check check) {
        check.promise(7);
        PrintSpooler x = new PrintSpooler();
        check.due("no document, bad text", x.listed(0, 0), -1);
        x.addDocument(400, 0, 1, 0, 1);
        check.due("listed(-1,0)", x.listed(-1, 0), -1);
        check.due("listed(1,0)", x.listed(1, 0), -1);
        check.due("empty text", x.listed(0, -5), -3);
        Check.text(x, "*,1");
        check.due("401 pages", x.listed(0, -1), -4);
        check.due("401 pages, no index", x.listed(0, 999), -4);
        Check.text(x, "*,1,!*");
        check.due("401 pages after the second item", x.listed(0, -1), -4);
        Check.text(x, "*,!1,1");
        check.due("400 pages", x.listed(0, -1), 400);
        check.due("the last one", x.listed(0, 399), 1);
        check.due("behind the last one", x.listed(0, 400), -6);
        check.due("listed(0,-2)", x.listed(0, -2), -6);
        check.due("listed(0,least)", x.listed(0, Integer.MIN_VALUE), -6);
        check.due("listed(0,greatest)", x.listed(0, Integer.MAX_VALUE), -6);
        Check.text(x, "*,1,x");
        check.due("401 pages, bad text", x.listed(0, -1), -3);
        Check.text(x, "!*");
        check.due("no pages", x.listed(0, -1), 0);
        check.due("no pages, index 0", x.listed(0, 0), -6);
        check.due("the text stays", x.count(5), 2);
    }
}
