import java.lang.reflect.Method;
import java.util.ArrayList;
import java.util.List;

/** All promises: runs of calls that are drawn, answered by the class and by the plain model alike. */
public final class ModelTest {
    private static final int RUNS = Integer.getInteger("runs", 150);
    private static final int CALLS = 512;
    private static long seed = Long.getLong("seed", 1);

    private final PrintSpooler spooler = new PrintSpooler();
    private final PlainModel model = new PlainModel();
    private final List<String> calls = new ArrayList<>();
    private final int style;
    private boolean equal = true;

    private ModelTest(int style) {
        this.style = style;
    }

    public static void main(String[] args) throws ReflectiveOperationException {
        int wrong = 0;
        for (int run = 0; run < RUNS && wrong < 3; run++) {
            ModelTest test = new ModelTest(run % 4);
            test.run();
            if (!test.equal) {
                wrong++;
                System.out.println("run " + run + ":\n  " + String.join("\n  ", test.calls));
            }
        }
        if (wrong != 0) {
            System.exit(1);
        }
    }

    private void run() throws ReflectiveOperationException {
        begin();
        while (equal && calls.size() < CALLS) {
            step();
        }
    }

    private int call(String name, int... arguments) throws ReflectiveOperationException {
        if (!equal || calls.size() >= CALLS) {
            return 0;
        }
        Class<?>[] types = new Class<?>[arguments.length];
        Object[] values = new Object[arguments.length];
        StringBuilder words = new StringBuilder(name).append('(');
        for (int i = 0; i < arguments.length; i++) {
            types[i] = int.class;
            values[i] = arguments[i];
            words.append(i == 0 ? "" : ", ").append(arguments[i]);
        }
        Method real = PrintSpooler.class.getDeclaredMethod(name, types);
        Method plain = PlainModel.class.getDeclaredMethod(name, types);
        int got = (int) real.invoke(spooler, values);
        int want = (int) plain.invoke(model, values);
        calls.add(words + ") = " + got);
        if (got != want) {
            equal = false;
            calls.add("due is " + want);
        }
        return got;
    }

    private void begin() throws ReflectiveOperationException {
        int documents = 1 + random(3);
        for (int i = 0; i < documents; i++) {
            addDocument();
        }
        int printers = 1 + random(3);
        for (int i = 0; i < printers; i++) {
            addPrinter();
            for (int size = 0; size < 3; size++) {
                call("fill", i, size, random(4) == 0 ? random(6) : random(300));
            }
        }
        call("setRules", 1 + random(random(2) == 0 ? 8 : 40), random(random(2) == 0 ? 10 : 60));
    }

    private void addDocument() throws ReflectiveOperationException {
        int pages = random(3) == 0 ? 1 + random(400) : 1 + random(15);
        call("addDocument", pages, random(3), 1 + random(random(2) == 0 ? 30 : 500), random(51), 1 + random(500));
    }

    private void addPrinter() throws ReflectiveOperationException {
        int memory = random(3) == 0 ? 1 + random(6) : random(2) == 0 ? 1 + random(80) : 1 + random(2000);
        call("addPrinter", 1 + random(random(4) == 0 ? 50 : 8), memory, random(2));
    }

    private int job() {
        return random(40) == 0 ? random(30) - 2 : random(Math.max(1, model.count(1)));
    }

    private int near(int most) {
        return random(12) == 0 ? -1 - random(3) : random(12) == 0 ? most + random(3) : random(most + 1);
    }

    private void step() throws ReflectiveOperationException {
        switch (random(style == 0 ? 14 : 24)) {
            case 0: case 1: text(); call("submit", random(30) == 0 ? near(11) : random(model.count(0))); break;
            case 2: text(); lookAtText(); break;
            case 3: setting(); break;
            case 4: case 5: lookAtSheets(); break;
            case 6: lookAtText(); break;
            case 7: case 8: case 9: lookAtAll(); break;
            case 10: call("advance", random(20) == 0 ? random(1002) : 1 + random(30)); break;
            case 11: slots(); break;
            case 12: forecast(); break;
            case 13: odds(); break;
            case 14: case 15: case 16: case 17: command(); break;
            case 18: case 19: call("advance", 1 + random(12)); break;
            case 20: supply(); break;
            case 21: case 22: call(random(2) == 0 ? "jam" : "clear", random(3)); break;
            default: call("clear", random(3)); break;
        }
    }

    private void setting() throws ReflectiveOperationException {
        int[] most = {10, 1, 2, 4, 9, 5};
        int setting = random(20) == 0 ? near(6) : random(6);
        if (setting == 0) {
            call("set", 0, random(3) == 0 ? near(10) : 1 + random(3));
        } else {
            call("set", setting, near(setting < 0 || setting > 5 ? 3 : most[setting]));
        }
    }

    private void lookAtText() throws ReflectiveOperationException {
        call("fault");
        int document = random(20) == 0 ? near(10) : random(model.count(0));
        int size = call("listed", document, -1);
        call("listed", document, near(Math.max(3, size)));
    }

    private void lookAtSheets() throws ReflectiveOperationException {
        int job = job();
        int sheet = near(Math.max(0, model.about(job, 8) - 1));
        int side = random(15) == 0 ? near(2) : random(2);
        switch (random(6)) {
            case 0:
                for (int position = 0; position < 4; position++) {
                    call("page", job, sheet, side, position);
                }
                break;
            case 1: call("turned", job, side); call("blanks", job); break;
            case 2:
                int index = near(Math.max(0, model.about(job, 7) - 1));
                for (int what = 0; what < 3; what++) {
                    call("where", job, index, what);
                }
                call("where", job, near(400), near(2));
                break;
            case 3:
                int length = call("canonical", job, -1);
                call("canonical", job, -2);
                for (int i = 0; i < length && i < 12; i++) {
                    call("canonical", job, random(length));
                }
                call("canonical", job, near(length));
                break;
            case 4:
                int printer = random(15) == 0 ? near(3) : random(3);
                for (int what = 0; what < 3; what++) {
                    call("side", job, sheet, side, printer, what);
                }
                break;
            default: call("duration", job, near(2)); call("page", job, sheet, side, near(4)); break;
        }
    }

    private void lookAtAll() throws ReflectiveOperationException {
        switch (random(6)) {
            case 0:
                int number = model.count(4) - 1 - random(random(3) == 0 ? 120 : 8);
                for (int what = 0; what < 4; what++) {
                    call("log", number, what);
                }
                break;
            case 1: call("printer", random(3), near(6)); call("printer", random(3), 3 + random(4)); break;
            case 2: call("count", near(6)); call("count", 4 + random(3)); break;
            case 3: call("printed", near(5)); break;
            default: call("about", job(), near(11)); call("about", job(), 9 + random(3)); break;
        }
    }

    private void command() throws ReflectiveOperationException {
        String[] names = {"hold", "release", "release", "cancel"};
        if (random(3) == 0) {
            call("promote", job(), near(9));
        } else {
            call(names[random(names.length)], job());
        }
        call("about", job(), 9);
    }

    private void supply() throws ReflectiveOperationException {
        if (random(3) == 0) {
            int user = near(5);
            int quota = random(3) == 0 ? 10000 : Math.max(0, model.printed(Math.max(0, user % 6))) + random(9);
            call("setQuota", user, random(20) == 0 ? -1 + random(2) * 10002 : quota);
        } else if (random(4) == 0) {
            call("setRules", random(random(2) == 0 ? 5 : 1002), random(random(2) == 0 ? 20 : 1002));
        } else {
            call("fill", random(3), near(2), random(30) - 12);
        }
    }

    private void slots() throws ReflectiveOperationException {
        call(random(3) == 0 ? "save" : random(4) == 0 ? "restore" : "count", random(2));
        call(random(20) == 0 ? "save" : "count", near(1));
    }

    private void forecast() throws ReflectiveOperationException {
        int limit = random(15) == 0 ? near(3000) : 1 + random(random(2) == 0 ? 60 : 900);
        switch (random(3)) {
            case 0: call("finish", job(), limit); break;
            case 1: call("urgency", job(), Math.min(limit, 1001)); break;
            default: call("finisher", near(random(3) == 0 ? 24 : 4), limit); break;
        }
    }

    private void odds() throws ReflectiveOperationException {
        switch (random(6)) {
            case 0: addDocument(); break;
            case 1: addPrinter(); break;
            case 2: call("weight", near(3), near(20)); break;
            case 3: call("addDocument", near(400), near(2), near(500), near(50), near(500)); break;
            case 4: call("addPrinter", near(50), near(2000), near(1)); break;
            default: call("fill", near(3), near(2), random(1100) - 550); break;
        }
    }

    /** A text: of the grammar, mostly with numbers of the same ten, at times with a sign changed. */
    private void text() throws ReflectiveOperationException {
        call("wipe");
        StringBuilder text = new StringBuilder();
        int items = 1 + random(random(3) == 0 ? 9 : 2);
        for (int i = 0; i < items; i++) {
            text.append(i == 0 ? "" : ",").append(random(6) == 0 ? "!" : "");
            int a = number();
            int b = number();
            String[] spans = {"*", "" + a, a + "-", "-" + a, a + "-" + b, a + "-" + b};
            text.append(spans[random(10) == 0 ? 0 : 1 + random(5)]);
            text.append(new String[] {"", "", "o", "e"}[random(4)]);
        }
        if (random(12) == 0) {
            text.setCharAt(random(text.length()), "!*-,oe0123456789ax~".charAt(random(19)));
        }
        for (int i = 0; i < text.length(); i++) {
            call("say", text.charAt(i));
        }
        if (random(60) == 0) {
            call("say", random(140));
        }
    }

    private int number() {
        return random(12) == 0 ? 1 + random(999) : random(3) == 0 ? 95 + random(10) : 1 + random(12);
    }

    private static int random(int bound) {
        seed = seed * 6364136223846793005L + 1442695040888963407L;
        return (int) ((seed >>> 33) % Math.max(1, bound));
    }
}
