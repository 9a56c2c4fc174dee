/** Promises 1 to 3: a new object, documents and weights. */
public final class DocumentTest {
    public static void main(String[] args) {
        Check check = new Check();
        newObject(check);
        adding(check);
        weights(check);
        check.end();
    }

    private static void newObject(Check check) {
        check.promise(1);
        PrintSpooler x = new PrintSpooler();
        for (int what = 0; what <= 6; what++) {
            check.due("count(" + what + ")", x.count(what), 0);
        }
        check.due("weight(0,1)", x.weight(0, 1), -1);
        check.due("about(0,0)", x.about(0, 0), -1);
        check.due("printer(0,0)", x.printer(0, 0), -1);
        int[] initial = {1, 1, 0, 1, 5, 0};
        for (int setting = 0; setting <= 5; setting++) {
            check.due("set(" + setting + ",1)", x.set(setting, 1), initial[setting]);
        }
        check.due("setRules(1,0)", x.setRules(1, 0), 20);
        for (int user = 0; user <= 5; user++) {
            check.due("setQuota", x.setQuota(user, 0), 10000);
            check.due("printed", x.printed(user), 0);
        }
        check.due("log(0,0)", x.log(0, 0), -6);
        check.due("restore(0)", x.restore(0), -5);
        check.due("restore(1)", x.restore(1), -5);
        check.due("fault()", x.fault(), 0);
    }

    private static void adding(Check check) {
        check.promise(2);
        PrintSpooler x = new PrintSpooler();
        int[][] bad = {{0, 0, 1, 0, 1}, {401, 0, 1, 0, 1}, {-1, 0, 1, 0, 1}, {1, -1, 1, 0, 1}, {1, 3, 1, 0, 1},
            {1, 0, 0, 0, 1}, {1, 0, 501, 0, 1}, {1, 0, 1, -1, 1}, {1, 0, 1, 51, 1}, {1, 0, 1, 0, 0},
            {1, 0, 1, 0, 501}, {Integer.MAX_VALUE, 0, 1, 0, 1}, {1, Integer.MIN_VALUE, 1, 0, 1}};
        for (int[] b : bad) {
            check.due("addDocument out of range", x.addDocument(b[0], b[1], b[2], b[3], b[4]), -2);
        }
        check.due("count(0)", x.count(0), 0);
        for (int i = 0; i < 10; i++) {
            int got = i % 2 == 0 ? x.addDocument(1, 0, 1, 0, 1) : x.addDocument(400, 2, 500, 50, 500);
            check.due("addDocument", got, i);
        }
        check.due("the eleventh", x.addDocument(1, 0, 1, 0, 1), -4);
        check.due("a bad eleventh", x.addDocument(1, 0, 1, 0, 0), -2);
        check.due("count(0)", x.count(0), 10);
    }

    private static void weights(Check check) {
        check.promise(3);
        PrintSpooler x = new PrintSpooler();
        x.addDocument(10, 0, 10, 3, 7);
        x.addDocument(400, 1, 500, 50, 499);
        check.due("weight(0,1)", x.weight(0, 1), 13);
        check.due("weight(0,5)", x.weight(0, 5), 11);
        check.due("weight(0,7)", x.weight(0, 7), 10);
        check.due("weight(0,10)", x.weight(0, 10), 12);
        check.due("weight(0,0)", x.weight(0, 0), -2);
        check.due("weight(0,11)", x.weight(0, 11), -2);
        check.due("weight(0,-1)", x.weight(0, -1), -2);
        check.due("weight(1,400)", x.weight(1, 400), 500 + 20000 % 499);
        check.due("weight(1,401)", x.weight(1, 401), -2);
        check.due("weight(2,0)", x.weight(2, 0), -1);
        check.due("weight(-1,1)", x.weight(-1, 1), -1);
    }
}
