import java.util.regex.Pattern;

/** Promises 4 to 7: the text, its fault and the list that it describes. */
public final class TextTest {
    private static final int LEAST = Integer.MIN_VALUE, GREATEST = Integer.MAX_VALUE;

    public static void main(String[] args) {
        Check check = new Check();
        saying(check);
        fullText(check);
        wiping(check);
        forms(check);
        everyNextCharacter(check);
        allShortTexts(check);
        faults(check);
        spans(check);
        parities(check);
        items(check);
        indices(check);
        longLists(check);
        listErrors(check);
        check.end();
    }

    private static void saying(Check check) {
        check.says(4, "`character`: its code, 33 to 126");
        PrintSpooler x = new PrintSpooler();
        int[] refused = {32, 127, 0, -1, 10, 128, 65536 + 49, LEAST, GREATEST};
        for (int character : refused) {
            check.due("say(" + character + ")", x.say(character), -2);
        }
        check.due("the text is empty", x.count(5), 0);
        check.due("say(33)", x.say(33), 1);
        check.due("say(126)", x.say(126), 2);
        check.says(4, "Appends a character to the text.");
        PrintSpooler y = Make.document(10, 0);
        check.due("say(53)", y.say('5'), 1);
        check.due("page 5", y.listed(0, 0), 5);
        check.due("say(45)", y.say('-'), 2);
        check.due("page 5 and those behind it", y.listed(0, -1), 6);
        check.due("say(54)", y.say('6'), 3);
        check.due("pages 5 and 6", y.listed(0, -1), 2);
    }

    private static void fullText(Check check) {
        PrintSpooler x = Make.document(10, 0);
        check.says(4, "Returns the length of the text then; BAD_VALUE if the code is out of range; "
            + "TOO_MANY if the text has 40 characters.");
        for (int i = 1; i <= 38; i++) {
            check.due("say", x.say(i % 2 == 1 ? '1' : ','), i);
        }
        check.due("the 39th", x.say('2'), 39);
        check.due("a bad 40th", x.say(127), -2);
        check.says(0, "The text is a buffer of at most 40 characters.");
        check.due("the 40th", x.say('-'), 40);
        check.due("the 41st", x.say('3'), -4);
        check.due("the 41st again", x.say('3'), -4);
        check.due("count(5)", x.count(5), 40);
        check.due("19 times page 1, then 2 to 10", x.listed(0, -1), 28);
        check.says(4, "Returns the length of the text then; BAD_VALUE if the code is out of range; "
            + "TOO_MANY if the text has 40 characters.");
        check.due("a bad 41st", x.say(32), -2);
        check.due("a bad 41st", x.say(127), -2);
        check.due("the text stays", x.listed(0, 27), 10);
        x.wipe();
        check.due("say", x.say('1'), 1);
    }

    private static void wiping(Check check) {
        check.says(5, "Empties the text.");
        PrintSpooler x = new PrintSpooler();
        Check.text(x, "-5");
        x.wipe();
        check.due("count(5)", x.count(5), 0);
        check.due("fault()", x.fault(), 0);
        check.due("nothing of it is left", x.say('7'), 1);
        check.due("the new text", x.fault(), -6);
        check.says(5, "Returns the length that it had.");
        check.due("wipe()", x.wipe(), 1);
        check.due("wipe() of the empty text", x.wipe(), 0);
        for (int i = 0; i < 40; i++) {
            x.say(33);
        }
        check.due("wipe() of the full text", x.wipe(), 40);
        check.due("wipe() of the empty text", x.wipe(), 0);
    }

    private static void fault(Check check, String text, int want) {
        PrintSpooler x = new PrintSpooler();
        Check.text(x, text);
        check.due("fault() of '" + text + "'", x.fault(), want);
    }

    private static void faultless(Check check, String... texts) {
        for (String text : texts) {
            fault(check, text, -6);
        }
    }

    private static void forms(Check check) {
        check.says(0, "It is correct if it has this form, without spaces:");
        faultless(check, "1", "*", "10-20,!15", "1,2,!3-,-4o,*");
        check.says(0, "ranges = item { \",\" item }");
        faultless(check, "1,2", "1,2,3", "*,*", "1o,2e,3", "-1,-1", "1-,1-");
        fault(check, "1,,2", 2);
        fault(check, ",1", 0);
        fault(check, "1,", 2);
        fault(check, "1;2", 1);
        check.says(0, "item = [ \"!\" ] span [ \"o\" | \"e\" ]");
        faultless(check, "!1", "1o", "1e", "!1o", "!*", "!*e", "*o", "!-7", "5-e", "1-2o");
        fault(check, "!!1", 1);
        fault(check, "1!", 1);
        fault(check, "1oe", 2);
        fault(check, "1oo", 2);
        fault(check, "o1", 0);
        fault(check, "!o", 1);
        fault(check, "1O", 1);
        check.says(0, "span = \"*\" | number | number \"-\" | \"-\" number | number \"-\" number");
        faultless(check, "*", "7", "7-", "-7", "7-8", "8-7", "7-7");
        fault(check, "-", 1);
        fault(check, "**", 1);
        fault(check, "*1", 1);
        fault(check, "*-", 1);
        fault(check, "-*", 1);
        fault(check, "1*", 1);
        fault(check, "--1", 1);
        fault(check, "1--", 2);
        fault(check, "1-2-", 3);
        fault(check, "-1-", 2);
        check.says(0, "number = a digit 1 to 9 and up to two further digits 0 to 9");
        faultless(check, "1", "9", "10", "99", "100", "999", "-1", "-999", "1-999", "999-999", "100-", "909");
        fault(check, "0", 0);
        fault(check, "01", 0);
        fault(check, "1000", 3);
        fault(check, "-0", 1);
        fault(check, "-1000", 4);
        fault(check, "3-0", 2);
        fault(check, "3-01", 2);
        fault(check, "3-1000", 5);
        fault(check, "1,0", 2);
    }

    /** After each kind of beginning, all characters are tried: those that may come next, and all others. */
    private static void everyNextCharacter(Check check) {
        check.says(6, "Returns the fault of the text.");
        String digits = "0123456789";
        String item = "!*-123456789";
        String[][] next = {{"", item}, {"!", "*-123456789"}, {"*", "oe,"}, {"1", digits + "-oe,"},
            {"12", digits + "-oe,"}, {"123", "-oe,"}, {"1-", "123456789oe,"}, {"1-2", digits + "oe,"},
            {"1-23", digits + "oe,"}, {"1-234", "oe,"}, {"-", "123456789"}, {"-2", digits + "oe,"},
            {"-23", digits + "oe,"}, {"-234", "oe,"}, {"1o", ","}, {"*e", ","}, {"1-e", ","}, {"-9o", ","},
            {"1-2e", ","}, {"1,", item}, {"!*,", item}, {"1,!", "*-123456789"}};
        for (String[] row : next) {
            for (char c = 33; c <= 126; c++) {
                PrintSpooler x = new PrintSpooler();
                Check.text(x, row[0] + c);
                boolean refused = x.fault() == row[0].length();
                check.due("fault() at the end of '" + row[0] + c + "'", refused ? 1 : 0, row[1].indexOf(c) < 0 ? 1 : 0);
            }
        }
    }

    /** The fault by its own words: which beginnings can be made correct is asked of a regular expression. */
    private static void allShortTexts(Check check) {
        check.says(0, "The fault of a text that is not correct is the index, from 0, of the first character after which "
            + "no continuation could make the text correct, including this character; if there is no such character, "
            + "because the text ends too early, it is the length of the text.");
        String number = "[1-9][0-9]?[0-9]?";
        String oneItem = "!?(\\*|" + number + "-?|-" + number + "|" + number + "-" + number + ")[oe]?";
        Pattern correct = Pattern.compile(oneItem + "(," + oneItem + ")*");
        String characters = "!*-,o01";
        int all = characters.length() * characters.length() * characters.length() * characters.length();
        for (int i = 0; i < all; i++) {
            StringBuilder text = new StringBuilder();
            for (int left = i; text.length() < 4; left /= characters.length()) {
                text.append(characters.charAt(left % characters.length()));
            }
            int want = correct.matcher(text).matches() ? -6 : text.length();
            for (int end = text.length(); end >= 1; end--) {
                String begun = text.substring(0, end);
                boolean hope = correct.matcher(begun).matches() || correct.matcher(begun + "1").matches();
                want = hope ? want : end - 1;
            }
            fault(check, text.toString(), want);
        }
    }

    private static void faults(Check check) {
        check.says(0, "The fault of a text that is not correct is the index, from 0, of the first character after which "
            + "no continuation could make the text correct, including this character; if there is no such character, "
            + "because the text ends too early, it is the length of the text.");
        String[] tooEarly = {"!", "-", "!-", "1,", "*,", "1,!", "1-2,-", "*o,"};
        for (String text : tooEarly) {
            fault(check, text, text.length());
        }
        fault(check, "x", 0);
        fault(check, "1x,0", 1);
        fault(check, "1,2,3x", 5);
        fault(check, "3--", 2);
        check.says(0, "(The greatest length of the text does not matter for this.)");
        String full = "1,1,1,1,1,1,1,1,1,1,1,1,1,1,1,1,1,1,1,1,";
        fault(check, full, 40);
        fault(check, full.substring(0, 39), -6);
        fault(check, full.substring(0, 39) + "-", -6);
        fault(check, full.substring(0, 38) + "!", 39);
        fault(check, full.substring(0, 38) + "1!", 39);
        fault(check, full.substring(0, 37) + "-2!", 39);
        check.says(0, "The empty text is not correct.");
        fault(check, "", 0);
        check.says(6, "Returns the fault, or NONE if the text is correct.");
        fault(check, "5-1o", -6);
        fault(check, "5-1o2", 4);
        PrintSpooler x = new PrintSpooler();
        Check.text(x, "5-1o2");
        x.fault();
        check.due("asked again", x.fault(), 4);
        check.due("the text stays", x.count(5), 5);
    }

    /** The list of a text for a document with so many pages. */
    private static void list(Check check, int pages, String text, String want) {
        PrintSpooler x = Make.document(pages, 0);
        check.due("the list of '" + text + "' for " + pages + " pages", Check.listed(x, 0, text), want);
    }

    private static void spans(Check check) {
        check.says(0, "The pages of a span for a document with n pages are: for \"*\", 1 to n;");
        list(check, 10, "*", "1 2 3 4 5 6 7 8 9 10");
        list(check, 1, "*", "1");
        check.says(0, "for a number a, page a;");
        list(check, 10, "1", "1");
        list(check, 10, "10", "10");
        check.says(0, "for \"a-\", a to n;");
        list(check, 10, "8-", "8 9 10");
        list(check, 10, "10-", "10");
        list(check, 3, "1-", "1 2 3");
        check.says(0, "for \"-b\", 1 to b;");
        list(check, 10, "-3", "1 2 3");
        list(check, 10, "-1", "1");
        list(check, 4, "-4", "1 2 3 4");
        check.says(0, "for \"a-b\", the pages from a to b, in descending order if a is greater than b.");
        list(check, 10, "3-5", "3 4 5");
        list(check, 10, "5-3", "5 4 3");
        list(check, 10, "4-4", "4");
        list(check, 10, "4-5", "4 5");
        list(check, 10, "5-4", "5 4");
        list(check, 10, "10-1", "10 9 8 7 6 5 4 3 2 1");
        check.says(0, "Pages greater than n are left out (so \"a-\" has no pages if a is greater than n).");
        list(check, 10, "11", "");
        list(check, 10, "999", "");
        list(check, 10, "11-", "");
        list(check, 10, "999-", "");
        list(check, 10, "9-11", "9 10");
        list(check, 10, "11-9", "10 9");
        list(check, 10, "10-11", "10");
        list(check, 10, "11-10", "10");
        list(check, 10, "11-12", "");
        list(check, 10, "12-11", "");
        list(check, 10, "-11", "1 2 3 4 5 6 7 8 9 10");
        list(check, 2, "-999", "1 2");
        list(check, 2, "999-1", "2 1");
        list(check, 1, "2-999,999-2", "");
    }

    private static void parities(Check check) {
        check.says(0, "With \"o\" only the odd pages of the span remain, with \"e\" only the even ones.");
        list(check, 9, "*o", "1 3 5 7 9");
        list(check, 9, "*e", "2 4 6 8");
        list(check, 10, "*o", "1 3 5 7 9");
        list(check, 10, "*e", "2 4 6 8 10");
        list(check, 1, "*e", "");
        list(check, 10, "7o", "7");
        list(check, 10, "7e", "");
        list(check, 10, "8o", "");
        list(check, 10, "8e", "8");
        list(check, 10, "8-o", "9");
        list(check, 10, "8-e", "8 10");
        list(check, 10, "-3o", "1 3");
        list(check, 10, "-3e", "2");
        list(check, 10, "-999e", "2 4 6 8 10");
        list(check, 10, "2-6o", "3 5");
        list(check, 10, "2-6e", "2 4 6");
        list(check, 10, "7-3o", "7 5 3");
        list(check, 10, "8-3o", "7 5 3");
        list(check, 10, "8-3e", "8 6 4");
        list(check, 10, "999-8e", "10 8");
        list(check, 9, "999-8e", "8");
        list(check, 9, "9,*,!*e,!3-5o", "9 1 7 9");
    }

    private static void items(Check check) {
        check.says(0, "The text describes a list of pages, which is empty initially.");
        list(check, 10, "!*", "");
        list(check, 10, "!3,3", "3");
        check.says(0, "Its items are processed in their order: an item without \"!\" appends its pages to the list, in "
            + "their order; an item with \"!\" removes all pages that are equal to one of its pages from the list.");
        list(check, 10, "3,1,2", "3 1 2");
        list(check, 10, "5-4,1-2", "5 4 1 2");
        list(check, 10, "*,!2-9", "1 10");
        list(check, 10, "*,!9-2", "1 10");
        list(check, 10, "*,!*o", "2 4 6 8 10");
        list(check, 10, "*,!2-4e", "1 3 5 6 7 8 9 10");
        list(check, 10, "*,!*", "");
        list(check, 10, "*,!*,!*,4", "4");
        list(check, 10, "*,!-8", "9 10");
        list(check, 10, "*,!2-", "1");
        list(check, 10, "*,!1-", "");
        list(check, 10, "*,!7-,!1", "2 3 4 5 6");
        list(check, 10, "*,!11", "1 2 3 4 5 6 7 8 9 10");
        list(check, 10, "*,!11-", "1 2 3 4 5 6 7 8 9 10");
        list(check, 10, "3,!3,3", "3");
        list(check, 10, "3,4,3,!3,5,3", "4 5 3");
        check.says(0, "(A page can be in the list several times.)");
        list(check, 10, "1,1,1", "1 1 1");
        list(check, 2, "*,*,2-1", "1 2 1 2 2 1");
        list(check, 10, "-4,-4,!2-e,7", "1 3 1 3 7");
        list(check, 10, "2,1,2,2,!2", "1");
    }

    private static void indices(Check check) {
        check.says(7, "Returns the list of pages that the text describes for a document.");
        PrintSpooler x = new PrintSpooler();
        x.addDocument(3, 0, 1, 0, 1);
        x.addDocument(5, 1, 1, 0, 1);
        check.due("for document 0", Check.listed(x, 0, "2-"), "2 3");
        check.due("for document 1", Check.listed(x, 1, "2-"), "2 3 4 5");
        check.says(7, "`document`: the document");
        check.due("listed(1,-1)", x.listed(1, -1), 4);
        check.due("listed(0,-1)", x.listed(0, -1), 2);
        check.says(7, "`index`: -1 for the number of pages in the list, otherwise an index in the list, from 0");
        check.due("listed(1,-1)", x.listed(1, -1), 4);
        check.due("listed(1,0)", x.listed(1, 0), 2);
        check.due("listed(1,3)", x.listed(1, 3), 5);
        check.says(7, "Returns the number, or the page; NONE if there is no such index; NO_SUCH if there is no such "
            + "document; BAD_TEXT if the text is not correct; TOO_MANY if the list has more than 400 pages after some "
            + "item.");
        int[] noIndex = {-2, 4, 400, LEAST, GREATEST};
        for (int index : noIndex) {
            check.due("listed(1," + index + ")", x.listed(1, index), -6);
        }
        check.due("listed(0,2)", x.listed(0, 2), -6);
        check.due("listed(1,3)", x.listed(1, 3), 5);
        check.due("listed(0,3), though a longer list had it", x.listed(0, 3), -6);
        Check.text(x, "!*");
        check.due("the empty list", x.listed(0, -1), 0);
        check.due("its first page", x.listed(0, 0), -6);
        check.due("the text stays", x.count(5), 2);
    }

    private static void longLists(Check check) {
        check.says(7, "The list must not have more than 400 pages after any item.");
        PrintSpooler x = Make.document(400, 0);
        String[] fits = {"*", "400-1", "*,!1,1", "-399,1", "*,!*,*", "*e,*o", "*,!400,400", "*,500", "-200,-200"};
        for (String text : fits) {
            Check.text(x, text);
            check.due("the list of '" + text + "'", x.listed(0, -1), 400);
            check.due("a page behind it", x.listed(0, 400), -6);
        }
        check.due("the last page", x.listed(0, 399), 200);
        String[] tooLong = {"*,1", "*,1,!1", "*,1,!*", "1,*", "*,*", "-200,-201", "*e,*o,1-2,!*", "*,400-1", "*,!1,1,1"};
        for (String text : tooLong) {
            Check.text(x, text);
            check.due("the list of '" + text + "'", x.listed(0, -1), -4);
        }
        Check.text(x, "*,!2,1");
        check.due("a list after one that was too long", x.listed(0, 399), 1);
        PrintSpooler y = Make.document(200, 0);
        check.due("twice 200 pages", Check.listed(y, 0, "*,*").length() > 400 ? 1 : 0, 1);
        Check.text(y, "*,*,*");
        check.due("three times", y.listed(0, -1), -4);
        PrintSpooler z = Make.document(399, 0);
        Check.text(z, "*,399-400");
        check.due("pages that are left out don't count", z.listed(0, -1), 400);
        Check.text(z, "*,398-400");
        check.due("one page more", z.listed(0, -1), -4);
    }

    private static void listErrors(Check check) {
        check.says(7, "Returns the number, or the page; NONE if there is no such index; NO_SUCH if there is no such "
            + "document; BAD_TEXT if the text is not correct; TOO_MANY if the list has more than 400 pages after some "
            + "item.");
        PrintSpooler x = new PrintSpooler();
        check.due("no document, the empty text", x.listed(0, 0), -1);
        x.addDocument(400, 0, 1, 0, 1);
        int[] noDocuments = {-1, 1, 10, LEAST, GREATEST};
        for (int document : noDocuments) {
            check.due("listed(" + document + ",0)", x.listed(document, 0), -1);
        }
        check.due("the empty text", x.listed(0, -1), -3);
        check.due("the empty text, no index", x.listed(0, -5), -3);
        Check.text(x, "*,1,x");
        check.due("a bad text with 401 pages", x.listed(0, -1), -3);
        check.due("no document", x.listed(1, -1), -1);
        Check.text(x, "*,");
        check.due("a text that ends too early", x.listed(0, 0), -3);
        Check.text(x, "*,1");
        check.due("no document", x.listed(1, -1), -1);
        check.due("401 pages", x.listed(0, -1), -4);
        check.due("401 pages, an index", x.listed(0, 0), -4);
        check.due("401 pages, no index", x.listed(0, 401), -4);
        check.due("401 pages, no index", x.listed(0, -2), -4);
        Check.text(x, "7");
        check.due("no document, no index", x.listed(1, 7), -1);
    }
}
