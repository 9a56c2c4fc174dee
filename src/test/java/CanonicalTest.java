import java.util.ArrayList;
import java.util.List;

/** Promise 15: the shortest text for the list of a job. */
public final class CanonicalTest {
    private static final int LEAST = Integer.MIN_VALUE, GREATEST = Integer.MAX_VALUE;
    private static final String SHORTEST = "Returns the shortest text that describes the list of a job and has neither "
        + "\"!\", \"*\" nor spans that begin or end with \"-\"; of several, the one with the fewest items; of several, the "
        + "one whose first item has most pages, then the one whose second item has most pages, and so on.";

    private final List<String> items = new ArrayList<>();
    private final List<Integer> sizes = new ArrayList<>();
    private List<String> best;
    private List<Integer> bestSizes;

    public static void main(String[] args) {
        Check check = new Check();
        forms(check);
        ties(check);
        ownPages(check);
        indices(check);
        noIndices(check);
        twoRuns(check);
        drawnLists(check);
        longTexts(check);
        check.end();
    }

    private static void known(Check check, String text, String want, int items) {
        PrintSpooler x = Make.document(400, 0);
        Check.submit(x, 0, text);
        check.due("the text for '" + text + "'", Check.canonical(x, 0), want);
        check.due("the items for '" + text + "'", x.canonical(0, -2), items);
    }

    private static void forms(Check check) {
        check.says(15, SHORTEST);
        known(check, "4", "4", 1);
        known(check, "400", "400", 1);
        known(check, "*", "1-400", 1);
        known(check, "1-", "1-400", 1);
        known(check, "-3", "1-3", 1);
        known(check, "*e", "2-400e", 1);
        known(check, "*o", "1-399o", 1);
        known(check, "400-1", "400-1", 1);
        known(check, "3,4", "3-4", 1);
        known(check, "4,3", "4-3", 1);
        known(check, "9-10", "9-10", 1);
        known(check, "10-9", "10-9", 1);
        known(check, "5,7", "5,7", 2);
        known(check, "7,5", "7,5", 2);
        known(check, "5,7,9", "5-9o", 1);
        known(check, "9,7,5", "9-5o", 1);
        known(check, "4,6,8", "4-8e", 1);
        known(check, "8,6,4", "8-4e", 1);
        known(check, "5-7o", "5,7", 2);
        known(check, "1,4,7", "1,4,7", 3);
        known(check, "3,3,3", "3,3,3", 3);
        known(check, "3,3-4", "3,3-4", 2);
        known(check, "400-398,!399", "400,398", 2);
        known(check, "1-3,5-7,!6,9", "1-3,5-9o", 2);
        known(check, "1-9,!5", "1-4,6-9", 2);
        known(check, "1-3,4-6", "1-6", 1);
        known(check, "1-2,2-1", "1-2,2-1", 2);
    }

    private static void ties(Check check) {
        check.says(15, SHORTEST);
        // 9 signs either way: two items rather than three
        known(check, "1-3,5", "1-3,5", 2);
        known(check, "98-99,100-104e", "98-99,100-104e", 2);
        known(check, "98-100,102,104", "98-99,100-104e", 2);
        known(check, "8-10,12,14", "8-9,10-14e", 2);
        known(check, "9,9,10,12", "9,9-10,12", 3);
        // two items of as many signs either way: most pages in the first
        known(check, "1-5,7,9,11", "1-5,7-11o", 2);
        known(check, "1-3,2,1", "1-3,2-1", 2);
        known(check, "1-3,5,7,9", "1-3,5-9o", 2);
        known(check, "1,2,1", "1-2,1", 2);
        known(check, "2,1,2,3", "2,1-3", 2);
        // as many signs and items either way, in parts where numbers have two digits or three
        known(check, "94-99,101,103,104", "94-99,101,103-104", 3);
        known(check, "102-104,103-102,100,98-96", "102-104,103-102,100,98-96", 4);
        known(check, "105,104,102,100-97", "105-104,102,100-97", 3);
        known(check, "4-9,11,13,14", "4-9,11,13-14", 3);
        // shorter all the same: the end of a run is left to the next item
        known(check, "1-10,12,14,16", "1-9,10-16e", 2);
        known(check, "1,3,5,4,3,2", "1,3,5-2", 3);
    }

    private static void ownPages(Check check) {
        check.says(15, "(The numbers of each item of this text are the first and the last of the pages that it appends, "
            + "so an item is determined by its pages; items with \"o\" and \"e\" have two numbers.)");
        // 9-14e, 9-15e and 14-9e would describe the same
        known(check, "10,12,14", "10-14e", 1);
        known(check, "14,12,10", "14-10e", 1);
        known(check, "100,102,104", "100-104e", 1);
        known(check, "9-15e", "10-14e", 1);
        known(check, "396-e", "396-400e", 1);
        known(check, "5o", "5", 1);
        known(check, "399-999", "399-400", 1);
        known(check, "400-999", "400", 1);
    }

    private static void indices(Check check) {
        check.says(15, "`index`: -1 for the length of the text, -2 for the number of its items, otherwise the index of a "
            + "character, from 0");
        PrintSpooler x = Make.document(10, 0);
        Check.submit(x, 0, "7-3o,10");
        Check.submit(x, 0, "8");
        check.due("canonical(0,-1)", x.canonical(0, -1), 7);
        check.due("canonical(0,-2)", x.canonical(0, -2), 2);
        String text = "7-3o,10";
        for (int index = 0; index < 7; index++) {
            check.due("canonical(0," + index + ")", x.canonical(0, index), text.charAt(index));
        }
        check.says(15, "`job`: the job");
        check.due("canonical(1,-1)", x.canonical(1, -1), 1);
        check.due("canonical(1,-2)", x.canonical(1, -2), 1);
        check.due("canonical(1,0)", x.canonical(1, 0), '8');
        check.due("canonical(0,-1) after it", x.canonical(0, -1), 7);
    }

    private static void noIndices(Check check) {
        check.says(15, "Returns the number, or the code of the character; NONE if there is no such index (also if index "
            + "is less than -2); NO_SUCH if there is no such job.");
        PrintSpooler x = Make.document(10, 0);
        check.due("no job", x.canonical(0, -1), -1);
        Check.submit(x, 0, "1-3");
        check.due("canonical(0,2)", x.canonical(0, 2), '3');
        int[] none = {3, 4, 1600, -3, -4, LEAST, GREATEST};
        for (int index : none) {
            check.due("canonical(0," + index + ")", x.canonical(0, index), -6);
        }
        int[] noJobs = {-1, 1, 24, LEAST, GREATEST};
        for (int job : noJobs) {
            check.due("canonical(" + job + ",-1)", x.canonical(job, -1), -1);
            check.due("canonical(" + job + ",-3)", x.canonical(job, -3), -1);
            check.due("canonical(" + job + ",3)", x.canonical(job, 3), -1);
        }
        Check.submit(x, 0, "5");
        check.due("behind a shorter text", x.canonical(1, 1), -6);
    }

    /** Compares with the best of all divisions of the list into items. */
    private static void compare(Check check, PrintSpooler x, String text) {
        Check.text(x, text);
        int size = x.listed(0, -1);
        if (size < 1 || size > 18) {
            return;
        }
        int[] pages = new int[size];
        for (int i = 0; i < size; i++) {
            pages[i] = x.listed(0, i);
        }
        int job = x.submit(0);
        CanonicalTest divisions = new CanonicalTest();
        divisions.divide(pages, 0);
        check.due("the text for '" + text + "'", Check.canonical(x, job), String.join(",", divisions.best));
        check.due("the items for '" + text + "'", x.canonical(job, -2), divisions.best.size());
    }

    /** Two runs, one after the other, about where the numbers get a digit more. */
    private static void twoRuns(Check check) {
        check.says(15, SHORTEST);
        int[] steps = {1, -1, 2, -2};
        for (int base = 10; base <= 100; base *= 10) {
            for (int i = 0; i < 4 * 4 * 4 * 4 * 9; i++) {
                int firstSize = 1 + i % 4;
                int secondSize = 1 + i / 4 % 4;
                int firstEnd = base - 4 + i / 256;
                int firstStep = steps[i / 16 % 4];
                int secondStep = steps[i / 64 % 4];
                StringBuilder text = new StringBuilder();
                for (int k = firstSize - 1; k >= 0; k--) {
                    text.append(firstEnd - k * firstStep).append(',');
                }
                for (int k = 1; k <= secondSize; k++) {
                    text.append(firstEnd + k * secondStep).append(k == secondSize ? "" : ",");
                }
                compare(check, Make.document(400, 0), text.toString());
            }
        }
    }

    private static void drawnLists(Check check) {
        check.says(15, SHORTEST);
        long seed = 5;
        for (int run = 0; run < 1500; run++) {
            StringBuilder text = new StringBuilder();
            int base = run % 3 == 0 ? 4 : run % 3 == 1 ? 6 : 94;
            while (text.length() < 34) {
                seed = seed * 6364136223846793005L + 1442695040888963407L;
                int random = (int) (seed >>> 33);
                int from = base + random % 7;
                int to = base + random / 7 % 9;
                text.append(text.length() == 0 ? "" : ",").append(from);
                if (random / 63 % 3 == 0) {
                    text.append('-').append(to).append(new String[] {"", "o", "e"}[random / 200 % 3]);
                }
            }
            compare(check, Make.document(400, 0), text.toString());
        }
    }

    private void divide(int[] pages, int from) {
        if (from == pages.length) {
            if (best == null || isBetter()) {
                best = new ArrayList<>(items);
                bestSizes = new ArrayList<>(sizes);
            }
            return;
        }
        for (int size = 1; from + size <= pages.length; size++) {
            String item = item(pages, from, size);
            if (item == null) {
                break;
            }
            items.add(item);
            sizes.add(size);
            divide(pages, from + size);
            items.remove(items.size() - 1);
            sizes.remove(sizes.size() - 1);
        }
    }

    private boolean isBetter() {
        int length = String.join(",", items).length();
        int bestLength = String.join(",", best).length();
        if (length != bestLength) {
            return length < bestLength;
        }
        if (items.size() != best.size()) {
            return items.size() < best.size();
        }
        for (int i = 0; i < sizes.size(); i++) {
            if (!sizes.get(i).equals(bestSizes.get(i))) {
                return sizes.get(i) > bestSizes.get(i);
            }
        }
        return false;
    }

    private static String item(int[] pages, int from, int size) {
        int first = pages[from];
        int last = pages[from + size - 1];
        if (size == 1) {
            return "" + first;
        }
        int step = pages[from + 1] - first;
        for (int i = 1; i < size; i++) {
            if (pages[from + i] - pages[from + i - 1] != step) {
                return null;
            }
        }
        if (Math.abs(step) == 1) {
            return first + "-" + last;
        }
        return Math.abs(step) == 2 ? first + "-" + last + (first % 2 == 1 ? "o" : "e") : null;
    }

    /** Texts that are longer than the 40 characters of the buffer. */
    private static void longTexts(Check check) {
        check.says(15, SHORTEST);
        known(check, "*,!3,!6,!9,!12,!15,!18,!21,!24,!27,!30",
            "1-2,4-5,7-8,10-11,13-14,16-17,19-20,22-23,25-26,28-29,31-400", 11);
        PrintSpooler x = Make.document(10, 0);
        Check.submit(x, 0, "1,1,1,1,1,1,1,1,1,1,1,1,1,1,1,1,1,1,1,1");
        check.due("equal pages", x.canonical(0, -1), 39);
        check.due("items of equal pages", x.canonical(0, -2), 20);
        PrintSpooler y = Make.document(99, 0);
        Check.submit(y, 0, "*,*,*,*,!9,!19,!29,!39,!49,!59,!69,!79");
        String once = "1-8,10-18,20-28,30-38,40-48,50-58,60-68,70-78,80-99";
        check.due("the length of four times as much", y.canonical(0, -1), 4 * once.length() + 3);
        check.due("its items", y.canonical(0, -2), 36);
        check.due("its end", y.canonical(0, 4 * once.length() + 2), '9');
        check.due("the comma before the last of four", y.canonical(0, 3 * once.length() + 2), ',');
        check.due("behind its end", y.canonical(0, 4 * once.length() + 3), -6);
    }
}
