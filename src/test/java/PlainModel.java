import java.util.ArrayList;
import java.util.List;
import java.util.regex.Pattern;

/**
 * The document said once more, in the plainest way and without a thought for speed: texts by a regular expression,
 * all sheets written out, every tick by itself. ModelTest compares the answers of both.
 */
final class PlainModel {
    private static final int NO_SUCH = -1, BAD_VALUE = -2, BAD_TEXT = -3, TOO_MANY = -4, NOT_POSSIBLE = -5, NONE = -6;
    private static final Pattern RANGES;

    static {
        String number = "[1-9][0-9]?[0-9]?";
        String span = "(\\*|" + number + "|" + number + "-|-" + number + "|" + number + "-" + number + ")";
        String item = "!?" + span + "[oe]?";
        RANGES = Pattern.compile(item + "(," + item + ")*");
    }

    /** Pages of a document are known by its numbers alone. */
    record Paper(int pages, int size, int base, int step, int span) { }

    static final class Task {
        int[] settings;
        int document;
        Paper paper;
        List<Integer> list;
        int state = 0, next = 0, since = 0, request = 0;

        Task copy() {
            Task copy = new Task();
            copy.settings = settings.clone();
            copy.document = document;
            copy.paper = paper;
            copy.list = list;
            copy.state = state;
            copy.next = next;
            copy.since = since;
            copy.request = request;
            return copy;
        }

        boolean booklet() {
            return settings[3] == 0;
        }

        boolean twoSided() {
            return booklet() || settings[2] != 0;
        }

        int perSide() {
            return booklet() ? 2 : settings[3];
        }

        int p(int index) {
            return index >= 0 && index < list.size() ? list.get(index) : 0;
        }

        /** The sheets of a copy: a row for each, with the pages of the front and then those of the back. */
        List<int[]> copySheets() {
            List<int[]> sheets = new ArrayList<>();
            int m = list.size();
            int k = perSide();
            if (booklet()) {
                int s = (m + 3) / 4;
                for (int t = 0; t < s; t++) {
                    sheets.add(new int[] {p(4 * s - 1 - 2 * t), p(2 * t), p(2 * t + 1), p(4 * s - 2 - 2 * t)});
                }
                return sheets;
            }
            int perSheet = twoSided() ? 2 * k : k;
            for (int from = 0; from < m; from += perSheet) {
                int[] sheet = new int[perSheet];
                for (int j = 0; j < perSheet; j++) {
                    sheet[j] = p(from + j);
                }
                sheets.add(sheet);
            }
            return sheets;
        }

        List<int[]> allSheets() {
            List<int[]> copy = copySheets();
            List<int[]> all = new ArrayList<>();
            if (settings[1] == 1) {
                for (int i = 0; i < settings[0]; i++) {
                    all.addAll(copy);
                }
            } else {
                for (int[] sheet : copy) {
                    for (int i = 0; i < settings[0]; i++) {
                        all.add(sheet);
                    }
                }
            }
            return all;
        }
    }

    static final class Device {
        int speed, memory, both;
        int[] trays = new int[3];
        int state = 0, job = -1, remaining = 0, lost = 0;

        Device copy() {
            Device copy = new Device();
            copy.speed = speed;
            copy.memory = memory;
            copy.both = both;
            copy.trays = trays.clone();
            copy.state = state;
            copy.job = job;
            copy.remaining = remaining;
            copy.lost = lost;
            return copy;
        }

        /** The load, the bands and whether it is coarse. */
        int[] side(Task task, int[] sheet, int side) {
            int k = task.perSide();
            int load = 0;
            boolean blank = true;
            for (int j = side * k; j < side * k + k && j < sheet.length; j++) {
                if (sheet[j] != 0) {
                    blank = false;
                    load += weightOf(task.paper, sheet[j]) / k;
                }
            }
            if (blank) {
                return new int[] {0, 0, 0};
            }
            for (int coarse = 0; coarse <= 1; coarse++) {
                int counted = coarse == 1 ? load / 4 : load;
                for (int b = 1; b <= 16; b *= 2) {
                    if (2 * ((counted + b - 1) / b) <= memory) {
                        return new int[] {load, b, coarse};
                    }
                }
            }
            return new int[] {load, 16, 1};
        }

        int ticks(Task task, int[] sheet) {
            int sum = 0;
            for (int side = 0; side <= 1; side++) {
                int bands = side(task, sheet, side)[1];
                sum += bands == 0 ? 0 : speed + bands;
            }
            return sum;
        }
    }

    private List<Paper> papers = new ArrayList<>();
    private List<Task> tasks = new ArrayList<>();
    private List<Device> devices = new ArrayList<>();
    private String text = "";
    private int[] settings = {1, 1, 0, 1, 5, 0};
    private int[] quotas = {10000, 10000, 10000, 10000, 10000, 10000};
    private int[] printed = new int[6];
    private List<int[]> log = new ArrayList<>();
    private List<Integer> finished = new ArrayList<>();
    private int aging = 20, margin = 1000, time = 0;
    private final PlainModel[] slots = new PlainModel[2];

    private PlainModel copy() {
        PlainModel copy = new PlainModel();
        copy.take(this);
        return copy;
    }

    private void take(PlainModel other) {
        papers = new ArrayList<>(other.papers);
        tasks = new ArrayList<>();
        other.tasks.forEach(task -> tasks.add(task.copy()));
        devices = new ArrayList<>();
        other.devices.forEach(device -> devices.add(device.copy()));
        text = other.text;
        settings = other.settings.clone();
        quotas = other.quotas.clone();
        printed = other.printed.clone();
        log = new ArrayList<>(other.log);
        finished = new ArrayList<>(other.finished);
        aging = other.aging;
        margin = other.margin;
        time = other.time;
    }

    static int weightOf(Paper paper, int page) {
        return paper.base + (page * paper.step) % paper.span;
    }

    private static boolean in(int value, int least, int most) {
        return value >= least && value <= most;
    }

    private boolean noPaper(int number) {
        return !in(number, 0, papers.size() - 1);
    }

    private boolean noTask(int number) {
        return !in(number, 0, tasks.size() - 1);
    }

    private boolean noDevice(int number) {
        return !in(number, 0, devices.size() - 1);
    }

    int addDocument(int pages, int size, int base, int step, int span) {
        if (!in(pages, 1, 400) || !in(size, 0, 2) || !in(base, 1, 500) || !in(step, 0, 50) || !in(span, 1, 500)) {
            return BAD_VALUE;
        }
        if (papers.size() == 10) {
            return TOO_MANY;
        }
        papers.add(new Paper(pages, size, base, step, span));
        return papers.size() - 1;
    }

    int weight(int document, int page) {
        if (noPaper(document)) {
            return NO_SUCH;
        }
        return in(page, 1, papers.get(document).pages) ? weightOf(papers.get(document), page) : BAD_VALUE;
    }

    int say(int character) {
        if (!in(character, 33, 126)) {
            return BAD_VALUE;
        }
        if (text.length() == 40) {
            return TOO_MANY;
        }
        text += (char) character;
        return text.length();
    }

    int wipe() {
        int length = text.length();
        text = "";
        return length;
    }

    private static boolean correct(String text) {
        return RANGES.matcher(text).matches();
    }

    int fault() {
        if (correct(text)) {
            return NONE;
        }
        for (int i = 0; i < text.length(); i++) {
            String begun = text.substring(0, i + 1);
            if (!correct(begun) && !correct(begun + "1") && !correct(begun + "*")) {
                return i;
            }
        }
        return text.length();
    }

    private static List<Integer> spanPages(String span, int n) {
        int parity = span.endsWith("o") ? 1 : span.endsWith("e") ? 0 : -1;
        String numbers = parity == -1 ? span : span.substring(0, span.length() - 1);
        int from;
        int to;
        int dash = numbers.indexOf('-');
        if (numbers.equals("*")) {
            from = 1;
            to = n;
        } else if (dash < 0) {
            from = Integer.parseInt(numbers);
            to = from;
        } else if (dash == 0) {
            from = 1;
            to = Integer.parseInt(numbers.substring(1));
        } else if (dash == numbers.length() - 1) {
            from = Integer.parseInt(numbers.substring(0, dash));
            to = n;
            if (from > n) {
                return new ArrayList<>();
            }
        } else {
            from = Integer.parseInt(numbers.substring(0, dash));
            to = Integer.parseInt(numbers.substring(dash + 1));
        }
        List<Integer> pages = new ArrayList<>();
        int step = from > to ? -1 : 1;
        for (int page = from; page != to + step; page += step) {
            if (page <= n && (parity == -1 || page % 2 == parity)) {
                pages.add(page);
            }
        }
        return pages;
    }

    /** The list, or null if it has more than 400 pages after some item. */
    private List<Integer> list(int n) {
        List<Integer> list = new ArrayList<>();
        for (String item : text.split(",")) {
            if (item.startsWith("!")) {
                list.removeAll(spanPages(item.substring(1), n));
            } else {
                list.addAll(spanPages(item, n));
            }
            if (list.size() > 400) {
                return null;
            }
        }
        return list;
    }

    int listed(int document, int index) {
        if (noPaper(document)) {
            return NO_SUCH;
        }
        if (!correct(text)) {
            return BAD_TEXT;
        }
        List<Integer> list = list(papers.get(document).pages);
        if (list == null) {
            return TOO_MANY;
        }
        return index == -1 ? list.size() : in(index, 0, list.size() - 1) ? list.get(index) : NONE;
    }

    int set(int setting, int value) {
        int[][] allowed = {{1, 2, 3, 4, 5, 6, 7, 8, 9, 10}, {0, 1}, {0, 1, 2}, {0, 1, 2, 4},
            {0, 1, 2, 3, 4, 5, 6, 7, 8, 9}, {0, 1, 2, 3, 4, 5}};
        if (!in(setting, 0, 5)) {
            return BAD_VALUE;
        }
        for (int one : allowed[setting]) {
            if (one == value) {
                int previous = settings[setting];
                settings[setting] = value;
                return previous;
            }
        }
        return BAD_VALUE;
    }

    int submit(int document) {
        if (noPaper(document)) {
            return NO_SUCH;
        }
        if (!correct(text)) {
            return BAD_TEXT;
        }
        Paper paper = papers.get(document);
        List<Integer> list = list(paper.pages);
        if (list == null || tasks.size() == 24) {
            return TOO_MANY;
        }
        if (list.isEmpty() || settings[3] == 0 && paper.size == 2) {
            return NOT_POSSIBLE;
        }
        Task task = new Task();
        task.settings = settings.clone();
        if (paper.size == 2) {
            task.settings[2] = 0;
        }
        task.document = document;
        task.paper = paper;
        task.list = list;
        task.since = time;
        tasks.add(task);
        text = "";
        return tasks.size() - 1;
    }

    private int rank(Task task) {
        return 10 * task.settings[4] + (time - task.since) / aging;
    }

    int about(int job, int what) {
        if (noTask(job)) {
            return NO_SUCH;
        }
        if (!in(what, 0, 11)) {
            return BAD_VALUE;
        }
        Task task = tasks.get(job);
        if (what <= 5) {
            return task.settings[what];
        }
        int[] rest = {task.document, task.list.size(), task.allSheets().size(), task.state, task.next,
            task.state == 0 ? rank(task) : NONE};
        return rest[what - 6];
    }

    private static boolean badSide(Task task, int side) {
        return !in(side, 0, task.twoSided() ? 1 : 0);
    }

    int page(int job, int sheet, int side, int position) {
        if (noTask(job) || !in(sheet, 0, tasks.get(job).allSheets().size() - 1)) {
            return NO_SUCH;
        }
        Task task = tasks.get(job);
        if (badSide(task, side) || !in(position, 0, task.perSide() - 1)) {
            return BAD_VALUE;
        }
        return task.allSheets().get(sheet)[side * task.perSide() + position];
    }

    int turned(int job, int side) {
        if (noTask(job)) {
            return NO_SUCH;
        }
        Task task = tasks.get(job);
        if (badSide(task, side)) {
            return BAD_VALUE;
        }
        boolean shortEdge = task.settings[2] == 2;
        return side == 1 && (shortEdge && !task.booklet() || !shortEdge && task.booklet()) ? 180 : 0;
    }

    int blanks(int job) {
        if (noTask(job)) {
            return NO_SUCH;
        }
        int blanks = 0;
        for (int[] sheet : tasks.get(job).allSheets()) {
            for (int page : sheet) {
                blanks += page == 0 ? 1 : 0;
            }
        }
        return blanks;
    }

    int where(int job, int index, int what) {
        if (noTask(job)) {
            return NO_SUCH;
        }
        Task task = tasks.get(job);
        if (!in(index, 0, task.list.size() - 1) || !in(what, 0, 2)) {
            return BAD_VALUE;
        }
        // The same job with the indices as its pages tells where each element is.
        Task marked = task.copy();
        marked.list = new ArrayList<>();
        for (int i = 0; i < task.list.size(); i++) {
            marked.list.add(i + 1);
        }
        List<int[]> sheets = marked.allSheets();
        for (int sheet = 0; sheet < sheets.size(); sheet++) {
            for (int j = 0; j < sheets.get(sheet).length; j++) {
                if (sheets.get(sheet)[j] == index + 1) {
                    return what == 0 ? sheet : what == 1 ? j / task.perSide() : j % task.perSide();
                }
            }
        }
        throw new IllegalStateException("nowhere");
    }

    private record Ending(int length, int items, List<Integer> sizes, String text) {
        boolean betterThan(Ending other) {
            if (other == null || length != other.length) {
                return other == null || length < other.length;
            }
            if (items != other.items) {
                return items < other.items;
            }
            for (int i = 0; i < items; i++) {
                if (!sizes.get(i).equals(other.sizes.get(i))) {
                    return sizes.get(i) > other.sizes.get(i);
                }
            }
            return false;
        }
    }

    int canonical(int job, int index) {
        if (noTask(job)) {
            return NO_SUCH;
        }
        List<Integer> list = tasks.get(job).list;
        int m = list.size();
        Ending[] best = new Ending[m + 1];
        best[m] = new Ending(0, 0, List.of(), "");
        for (int i = m - 1; i >= 0; i--) {
            for (int size = 1; i + size <= m; size++) {
                int step = size == 1 ? 0 : list.get(i + 1) - list.get(i);
                if (size > 1 && (Math.abs(step) < 1 || Math.abs(step) > 2
                        || list.get(i + size - 1) - list.get(i + size - 2) != step)) {
                    break;
                }
                String item = "" + list.get(i);
                if (size > 1) {
                    item += "-" + list.get(i + size - 1);
                }
                if (Math.abs(step) == 2) {
                    item += list.get(i) % 2 == 0 ? "e" : "o";
                }
                Ending rest = best[i + size];
                String whole = rest.items == 0 ? item : item + "," + rest.text;
                if (best[i] != null && whole.length() > best[i].length) {
                    continue;
                }
                List<Integer> sizes = new ArrayList<>(rest.sizes);
                sizes.add(0, size);
                Ending tried = new Ending(whole.length(), 1 + rest.items, sizes, whole);
                if (tried.betterThan(best[i])) {
                    best[i] = tried;
                }
            }
        }
        if (index == -1) {
            return best[0].length;
        }
        if (index == -2) {
            return best[0].items;
        }
        return in(index, 0, best[0].length - 1) ? best[0].text.charAt(index) : NONE;
    }

    int addPrinter(int speed, int memory, int both) {
        if (!in(speed, 1, 50) || !in(memory, 1, 2000) || !in(both, 0, 1)) {
            return BAD_VALUE;
        }
        if (devices.size() == 3) {
            return TOO_MANY;
        }
        Device device = new Device();
        device.speed = speed;
        device.memory = memory;
        device.both = both;
        devices.add(device);
        return devices.size() - 1;
    }

    int fill(int printer, int size, int sheets) {
        if (noDevice(printer)) {
            return NO_SUCH;
        }
        if (!in(size, 0, 2) || !in(sheets, -500, 500)) {
            return BAD_VALUE;
        }
        int[] trays = devices.get(printer).trays;
        if (!in(trays[size] + sheets, 0, 500)) {
            return NOT_POSSIBLE;
        }
        trays[size] += sheets;
        return trays[size];
    }

    int printer(int printer, int what) {
        if (noDevice(printer)) {
            return NO_SUCH;
        }
        if (!in(what, 0, 6)) {
            return BAD_VALUE;
        }
        Device d = devices.get(printer);
        boolean works = d.state == 1;
        return new int[] {d.trays[0], d.trays[1], d.trays[2], d.state, works ? d.job : NONE,
            works ? d.remaining : NONE, d.lost}[what];
    }

    int side(int job, int sheet, int side, int printer, int what) {
        if (noTask(job) || !in(sheet, 0, tasks.get(job).allSheets().size() - 1) || noDevice(printer)) {
            return NO_SUCH;
        }
        Task task = tasks.get(job);
        if (badSide(task, side) || !in(what, 0, 2)) {
            return BAD_VALUE;
        }
        return devices.get(printer).side(task, task.allSheets().get(sheet), side)[what];
    }

    int duration(int job, int printer) {
        if (noTask(job) || noDevice(printer)) {
            return NO_SUCH;
        }
        int sum = 0;
        for (int[] sheet : tasks.get(job).allSheets()) {
            sum += devices.get(printer).ticks(tasks.get(job), sheet);
        }
        return sum;
    }

    int setRules(int newAging, int newMargin) {
        if (!in(newAging, 1, 1000) || !in(newMargin, 0, 1000)) {
            return BAD_VALUE;
        }
        int previous = aging;
        aging = newAging;
        margin = newMargin;
        return previous;
    }

    int setQuota(int user, int quota) {
        if (!in(user, 0, 5)) {
            return NO_SUCH;
        }
        if (!in(quota, 0, 10000)) {
            return BAD_VALUE;
        }
        int previous = quotas[user];
        quotas[user] = quota;
        return previous;
    }

    int promote(int job, int priority) {
        if (noTask(job)) {
            return NO_SUCH;
        }
        if (!in(priority, 0, 9)) {
            return BAD_VALUE;
        }
        Task task = tasks.get(job);
        if (task.state >= 3) {
            return NOT_POSSIBLE;
        }
        int previous = task.settings[4];
        task.settings[4] = priority;
        return previous;
    }

    private void wait(Task task) {
        task.state = 0;
        task.since = time;
    }

    int hold(int job) {
        if (noTask(job)) {
            return NO_SUCH;
        }
        Task task = tasks.get(job);
        if (task.state == 0) {
            task.state = 2;
        } else if (task.state == 1) {
            task.request = 2;
        } else {
            return NOT_POSSIBLE;
        }
        return task.state;
    }

    int release(int job) {
        if (noTask(job)) {
            return NO_SUCH;
        }
        Task task = tasks.get(job);
        if (task.state == 2) {
            wait(task);
        } else if (task.state == 1 && task.request != 0) {
            task.request = 0;
        } else {
            return NOT_POSSIBLE;
        }
        return task.state;
    }

    int cancel(int job) {
        if (noTask(job)) {
            return NO_SUCH;
        }
        Task task = tasks.get(job);
        if (task.state == 0 || task.state == 2) {
            task.state = 4;
        } else if (task.state == 1) {
            task.request = 4;
        } else {
            return NOT_POSSIBLE;
        }
        return task.state;
    }

    int jam(int printer) {
        if (noDevice(printer)) {
            return NO_SUCH;
        }
        Device device = devices.get(printer);
        if (device.state == 2) {
            return NOT_POSSIBLE;
        }
        int lost = 0;
        if (device.state == 1) {
            Task task = tasks.get(device.job);
            if (task.request != 0) {
                task.state = task.request;
                task.request = 0;
            } else {
                wait(task);
            }
            lost = 1;
            device.lost++;
        }
        device.state = 2;
        return lost;
    }

    int clear(int printer) {
        if (noDevice(printer)) {
            return NO_SUCH;
        }
        if (devices.get(printer).state != 2) {
            return NOT_POSSIBLE;
        }
        devices.get(printer).state = 0;
        return 1;
    }

    private boolean printable(Task task, Device device) {
        return task.state == 0 && device.trays[task.paper.size] > 0 && (device.both == 1 || !task.twoSided())
            && printed[task.settings[5]] < quotas[task.settings[5]];
    }

    private void begin(Device device, int job) {
        Task task = tasks.get(job);
        device.trays[task.paper.size]--;
        device.remaining = device.ticks(task, task.allSheets().get(task.next));
        device.state = 1;
        device.job = job;
        task.state = 1;
    }

    private void tick() {
        time++;
        for (int d = 0; d < devices.size(); d++) {
            Device device = devices.get(d);
            if (device.state == 1 && --device.remaining == 0) {
                sheetDone(d, device);
            }
        }
        for (Device device : devices) {
            if (device.state != 0) {
                continue;
            }
            int best = -1;
            for (int job = tasks.size() - 1; job >= 0; job--) {
                if (printable(tasks.get(job), device) && (best < 0 || rank(tasks.get(job)) >= rank(tasks.get(best)))) {
                    best = job;
                }
            }
            if (best >= 0) {
                begin(device, best);
            }
        }
    }

    private void sheetDone(int number, Device device) {
        int job = device.job;
        Task task = tasks.get(job);
        int user = task.settings[5];
        log.add(new int[] {time, number, job, task.next});
        printed[user]++;
        task.next++;
        boolean outranked = false;
        for (Task other : tasks) {
            outranked |= printable(other, device) && rank(other) > 10 * task.settings[4] + margin;
        }
        if (task.next == task.allSheets().size()) {
            task.state = 3;
            finished.add(job);
        } else if (task.request != 0) {
            task.state = task.request;
            task.request = 0;
        } else if (device.trays[task.paper.size] == 0 || printed[user] >= quotas[user]) {
            wait(task);
        } else if (outranked) {
            wait(task);
        } else {
            begin(device, job);
            return;
        }
        device.state = 0;
    }

    int advance(int ticks) {
        if (!in(ticks, 1, 1000)) {
            return BAD_VALUE;
        }
        for (int i = 0; i < ticks; i++) {
            tick();
        }
        return time;
    }

    int log(int number, int what) {
        if (!in(what, 0, 3)) {
            return BAD_VALUE;
        }
        return in(number, Math.max(0, log.size() - 100), log.size() - 1) ? log.get(number)[what] : NONE;
    }

    int printed(int user) {
        return in(user, 0, 5) ? printed[user] : NO_SUCH;
    }

    int finish(int job, int limit) {
        if (noTask(job)) {
            return NO_SUCH;
        }
        if (!in(limit, 1, 3000)) {
            return BAD_VALUE;
        }
        PlainModel trial = copy();
        for (int passed = 0; passed <= limit; passed++) {
            if (trial.tasks.get(job).state == 3) {
                return passed;
            }
            trial.tick();
        }
        return NONE;
    }

    int urgency(int job, int ticks) {
        if (noTask(job)) {
            return NO_SUCH;
        }
        if (!in(ticks, 1, 1000)) {
            return BAD_VALUE;
        }
        if (tasks.get(job).state >= 3) {
            return NOT_POSSIBLE;
        }
        for (int priority = 0; priority <= 9; priority++) {
            PlainModel trial = copy();
            trial.promote(job, priority);
            trial.advance(ticks);
            if (trial.tasks.get(job).state == 3) {
                return priority;
            }
        }
        return NONE;
    }

    int finisher(int index, int limit) {
        if (!in(limit, 1, 3000)) {
            return BAD_VALUE;
        }
        PlainModel trial = copy();
        trial.finished.clear();
        for (int passed = 0; passed < limit; passed++) {
            trial.tick();
        }
        return in(index, 0, trial.finished.size() - 1) ? trial.finished.get(index) : NONE;
    }

    int count(int what) {
        if (!in(what, 0, 6)) {
            return BAD_VALUE;
        }
        int waiting = (int) tasks.stream().filter(task -> task.state == 0).count();
        return new int[] {papers.size(), tasks.size(), devices.size(), time, log.size(), text.length(), waiting}[what];
    }

    int save(int slot) {
        if (!in(slot, 0, 1)) {
            return BAD_VALUE;
        }
        slots[slot] = copy();
        return time;
    }

    int restore(int slot) {
        if (!in(slot, 0, 1)) {
            return BAD_VALUE;
        }
        if (slots[slot] == null) {
            return NOT_POSSIBLE;
        }
        take(slots[slot]);
        return time;
    }
}
