import java.util.ArrayList;
import java.util.List;

/** Promise 15: the shortest text for the list of a job. */
public final class CanonicalTest {
    public static void main(String[] args) {
        Check check = new Check();
        check.promise(15);
        known(check);
        errors(check);
        againstAllDivisions(check);
        longLists(check);
        check.end();
    }

    private static void known(Check check, String text, String want, int items) {
        PrintSpooler x = new PrintSpooler();
        x.addDocument(400, 0, 1, 0, 1);
        Check.submit(x, 0, text);
        check.due("the text for '" + text + "'", Check.canonical(x, 0), want);
        check.due("the items for '" + text + "'", x.canonical(0, -2), items);
    }

    private static void known(Check check) {
        known(check, "*", "1-400", 1);
        known(check, "*e", "2-400e", 1);
        known(check, "4", "4", 1);
        known(check, "3,4", "3-4", 1);
        known(check, "4,3", "4-3", 1);
        known(check, "9-10", "9-10", 1);
        known(check, "5,7", "5,7", 2);
        known(check, "5,7,9", "5-9o", 1);
        known(check, "9,7,5", "9-5o", 1);
        known(check, "4-8e", "4-8e", 1);
        known(check, "3,3,3", "3,3,3", 3);
        known(check, "9,9,10,12", "9,9-10,12", 3);
        // Of equal texts: fewest items, then most pages in the first item.
        known(check, "1-5,7,9,11", "1-5,7-11o", 2);
        known(check, "1-3,2,1", "1-3,2-1", 2);
        // A shorter last number makes it worth while to leave the end of a run to the next item.
        known(check, "1-10,12,14,16", "1-9,10-16e", 2);
        known(check, "1,3,5,4,3,2", "1,3,5-2", 3);
        // The numbers are pages of the item, though 9-14e would be shorter.
        known(check, "10,12,14", "10-14e", 1);
        known(check, "400-398,!399", "400,398", 2);
    }

    private static void errors(Check check) {
        PrintSpooler x = new PrintSpooler();
        check.due("no job", x.canonical(0, -1), -1);
        x.addDocument(10, 0, 1, 0, 1);
        Check.submit(x, 0, "1-3");
        check.due("canonical(-1,0)", x.canonical(-1, 0), -1);
        check.due("canonical(0,2)", x.canonical(0, 2), '3');
        check.due("canonical(0,3)", x.canonical(0, 3), -6);
        check.due("canonical(0,-3)", x.canonical(0, -3), -6);
        check.due("canonical(0,least)", x.canonical(0, Integer.MIN_VALUE), -6);
        check.due("canonical(0,greatest)", x.canonical(0, Integer.MAX_VALUE), -6);
    }

    /** Compares with the best of all divisions of the list into items. */
    private static void againstAllDivisions(Check check) {
        long seed = 5;
        for (int run = 0; run < 1500; run++) {
            StringBuilder text = new StringBuilder();
            int base = run % 3 == 0 ? 4 : run % 3 == 1 ? 6 : 94;
            while (text.length() < 34) {
                seed = seed * 6364136223846793005L + 1442695040888963407L;
                int random = (int) (seed >>> 33);
                int from = base + random % 7;
                int to = base + random / 7 % 9;
                text.append(text.length() == 0 ? "" : ",").append(from);
                if (random / 63 % 3 == 0) {
                    text.append('-').append(to).append(new String[] {"", "o", "e"}[random / 200 % 3]);
                }
            }
            PrintSpooler x = new PrintSpooler();
            x.addDocument(400, 0, 1, 0, 1);
            Check.submit(x, 0, text.toString());
            int size = x.about(0, 7);
            if (size < 1 || size > 18) {
                continue;
            }
            int[] pages = new int[size];
            Check.text(x, text.toString());
            for (int i = 0; i < size; i++) {
                pages[i] = x.listed(0, i);
            }
            best = null;
            divide(pages, 0, new ArrayList<>(), new ArrayList<>());
            check.due("the text for '" + text + "'", Check.canonical(x, 0), String.join(",", best));
        }
    }

    private static List<String> best;
    private static List<Integer> bestSizes;

    private static void divide(int[] pages, int from, List<String> items, List<Integer> sizes) {
        if (from == pages.length) {
            if (best == null || isBetter(items, sizes)) {
                best = new ArrayList<>(items);
                bestSizes = new ArrayList<>(sizes);
            }
            return;
        }
        for (int size = 1; from + size <= pages.length; size++) {
            String item = item(pages, from, size);
            if (item == null) {
                break;
            }
            items.add(item);
            sizes.add(size);
            divide(pages, from + size, items, sizes);
            items.remove(items.size() - 1);
            sizes.remove(sizes.size() - 1);
        }
    }

    private static boolean isBetter(List<String> items, List<Integer> sizes) {
        int length = String.join(",", items).length();
        int bestLength = String.join(",", best).length();
        if (length != bestLength) {
            return length < bestLength;
        }
        if (items.size() != best.size()) {
            return items.size() < best.size();
        }
        for (int i = 0; i < sizes.size(); i++) {
            if (!sizes.get(i).equals(bestSizes.get(i))) {
                return sizes.get(i) > bestSizes.get(i);
            }
        }
        return false;
    }

    private static String item(int[] pages, int from, int size) {
        int first = pages[from];
        int last = pages[from + size - 1];
        if (size == 1) {
            return "" + first;
        }
        int step = pages[from + 1] - first;
        for (int i = 1; i < size; i++) {
            if (pages[from + i] - pages[from + i - 1] != step) {
                return null;
            }
        }
        if (Math.abs(step) == 1) {
            return first + "-" + last;
        }
        return Math.abs(step) == 2 ? first + "-" + last + (first % 2 == 1 ? "o" : "e") : null;
    }

    /** Texts that are longer than the buffer, up to some 400 items. */
    private static void longLists(Check check) {
        PrintSpooler x = new PrintSpooler();
        x.addDocument(400, 0, 1, 0, 1);
        Check.submit(x, 0, "*,!3,!6,!9,!12,!15,!18,!21,!24,!27,!30");
        check.due("a long text", Check.canonical(x, 0), "1-2,4-5,7-8,10-11,13-14,16-17,19-20,22-23,25-26,28-29,31-400");
        x.addDocument(10, 0, 1, 0, 1);
        Check.submit(x, 1, "1,1,1,1,1,1,1,1,1,1,1,1,1,1,1,1,1,1,1,1");
        check.due("equal pages", x.canonical(1, -1), 39);
        check.due("items of equal pages", x.canonical(1, -2), 20);
    }
}
