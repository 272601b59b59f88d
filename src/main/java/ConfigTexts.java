/**
 * Texts of configurations of partitions: things of each partition, channels between ports, a frame
 * of windows; read with the place of the first fault.
 */
public final class ConfigTexts {
    public static final int NONE = -1;

    private static final int MOST_TEXT = 2000;
    private static final int MOST_PARTITIONS = 8;
    private static final int MOST_CHANNELS = 16;
    private static final int MOST_WINDOWS = 16;
    private static final int MOST_GOALS = 4;

    // The sorts of things, in the order in which partition() counts them, and of each sort how many
    // a partition may have and how many numbers are kept of one.
    private static final String SORTS = "process semaphore event buffer board port";
    private static final int PROCESS = 0;
    private static final int SEMAPHORE = 1;
    private static final int EVENT = 2;
    private static final int BUFFER = 3;
    private static final int BOARD = 4;
    private static final int PORT = 5;
    private static final int SORT_COUNT = 6;
    private static final int[] MOST_OF_SORT = {8, 4, 4, 4, 4, 8};
    private static final int[] WIDTH_OF_SORT = {5, 2, 0, 1, 0, 3};

    // Columns of the rows that are kept: each is the number by which the face asks for it.
    private static final int ENTRY = 0;
    private static final int PRIORITY = 1;
    private static final int PERIOD = 2;
    private static final int DEADLINE = 3;
    private static final int STOPPED = 4;
    private static final int SEMAPHORE_COUNT = 0;
    private static final int SEMAPHORE_MOST = 1;
    private static final int BUFFER_WORDS = 0;
    private static final int PORT_OUT = 0;
    private static final int PORT_QUEUING = 1;
    private static final int PORT_CHANNEL = 2;
    private static final int CHANNEL_QUEUING = 0;
    private static final int CHANNEL_AMOUNT = 1;
    private static final int CHANNEL_SOURCE = 2;
    private static final int CHANNEL_GOALS = 3;
    private static final int CHANNEL_FIRST_GOAL = 4;
    private static final int WINDOW_PARTITION = 0;
    private static final int WINDOW_TICKS = 1;

    private static final String KINDS = "illegal memory late raised";
    private static final int KIND_COUNT = 4;
    private static final String ACTIONS = "skip stop again warm cold idle handle";
    private static final int HANDLE = 6;
    private static final String WAYS = "in out";
    private static final String MODES = "sampling queuing";
    private static final int QUEUING = 1;

    private static final int CANNOT_STAND = 1;
    private static final int NO_WORD = 2;
    private static final int NAME_TWICE = 3;
    private static final int TOO_MANY = 4;
    private static final int BAD_NUMBER = 5;
    private static final int UNKNOWN_NAME = 6;
    private static final int BROKEN_RULE = 7;

    private final byte[] text;
    private int length;
    private final Words words;
    private final Configuration configuration;
    private final Reader reader;
    private boolean loaded;

    public ConfigTexts() {
        text = new byte[MOST_TEXT];
        length = 0;
        words = new Words(text);
        configuration = new Configuration();
        reader = new Reader(words, configuration);
        loaded = false;
    }

    public boolean put(long v, int n) {
        if (n < 0 || n > 8 || length + n > MOST_TEXT) {
            return false;
        }
        for (int k = n - 1; k >= 0; k--) {
            text[length] = (byte) (v >> (8 * k));
            length++;
        }
        return true;
    }

    public int load() throws IllegalArgumentException {
        int end = length;
        // A fault leaves by an exception from deep inside, so all that must hold after it is set first.
        length = 0;
        loaded = false;
        configuration.clear();
        words.begin(end);
        for (int n = 0; n <= MOST_PARTITIONS && (n == 0 || words.is("partition")); n++) {
            reader.readPartition();
        }
        for (int n = 0; n <= MOST_CHANNELS && words.is("channel"); n++) {
            reader.readChannel();
        }
        reader.readFrame();
        words.expectEnd();
        loaded = true;
        return configuration.partitionCount;
    }

    public int fault(int what) {
        if (what == 0) {
            return words.fault;
        }
        return what == 1 ? words.faultPlace : NONE;
    }

    public int size(int what) {
        if (what < 0 || what > 5) {
            return NONE;
        }
        return loaded ? configuration.count(what) : 0;
    }

    public int partition(int partition, int what) {
        Partition found = partitionAt(partition);
        return found == null ? NONE : found.get(what);
    }

    public int process(int partition, int process, int what) {
        return numberOf(partition, PROCESS, process, what);
    }

    public int thing(int partition, int sort, int k, int what) {
        switch (sort) {
            case 0:
                return numberOf(partition, SEMAPHORE, k, what);
            case 1:
                return numberOf(partition, BUFFER, k, what);
            case 2:
                return numberOf(partition, PORT, k, what);
            default:
                return NONE;
        }
    }

    public int channel(int channel, int what) {
        return loaded ? configuration.channels.get(channel, what) : NONE;
    }

    public int window(int k, int what) {
        return loaded ? configuration.windows.get(k, what) : NONE;
    }

    private Partition partitionAt(int partition) {
        return loaded ? configuration.partitionAt(partition) : null;
    }

    private int numberOf(int partition, int sort, int k, int what) {
        Partition found = partitionAt(partition);
        return found == null ? NONE : found.things[sort].get(k, what);
    }

    /** Rows of numbers, all of one width, each with a name: made once and used again by every load. */
    private static final class Rows {
        private final int most;
        private final int width;
        private final long[] names;
        private final int[] numbers;
        private int count;

        Rows(int most, int width) {
            this.most = most;
            this.width = width;
            names = new long[most];
            numbers = new int[most * width];
            count = 0;
        }

        void clear() {
            count = 0;
        }

        boolean isFull() {
            return count >= most;
        }

        /** Adds a row whose numbers are all the one that is given. */
        void add(long name, int number) {
            if (isFull()) {
                return;
            }
            names[count] = name;
            for (int column = 0; column < width; column++) {
                numbers[count * width + column] = number;
            }
            count++;
        }

        private boolean holds(int row, int column) {
            return row >= 0 && row < count && column >= 0 && column < width;
        }

        int get(int row, int column) {
            return holds(row, column) ? numbers[row * width + column] : NONE;
        }

        void set(int row, int column, int number) {
            if (holds(row, column)) {
                numbers[row * width + column] = number;
            }
        }

        void setLast(int column, int number) {
            set(count - 1, column, number);
        }

        int find(long name) {
            for (int row = 0; row < count; row++) {
                if (names[row] == name) {
                    return row;
                }
            }
            return NONE;
        }
    }

    /** One partition with its things. */
    private static final class Partition {
        private long name;
        private int memory;
        private int handler;
        private final int[] actions;
        private final Rows[] things;

        Partition() {
            actions = new int[KIND_COUNT];
            things = new Rows[SORT_COUNT];
            for (int sort = 0; sort < SORT_COUNT; sort++) {
                things[sort] = new Rows(MOST_OF_SORT[sort], WIDTH_OF_SORT[sort]);
            }
        }

        void begin(long newName) {
            name = newName;
            memory = 0;
            handler = NONE;
            for (int kind = 0; kind < KIND_COUNT; kind++) {
                actions[kind] = 0;
            }
            for (int sort = 0; sort < SORT_COUNT; sort++) {
                things[sort].clear();
            }
        }

        boolean hasThing(long thingName) {
            for (int sort = 0; sort < SORT_COUNT; sort++) {
                if (things[sort].find(thingName) != NONE) {
                    return true;
                }
            }
            return false;
        }

        void setAction(int kind, int action) {
            if (kind >= 0 && kind < KIND_COUNT) {
                actions[kind] = action;
            }
        }

        int get(int what) {
            if (what == 0) {
                return memory;
            }
            if (what >= 1 && what <= SORT_COUNT) {
                return things[what - 1].count;
            }
            if (what == 7) {
                return handler;
            }
            return what >= 8 && what < 8 + KIND_COUNT ? actions[what - 8] : NONE;
        }
    }

    /** All that a text tells. Half filled after a fault, so the face asks it after a whole load only. */
    private static final class Configuration {
        private final Partition[] partitions;
        private int partitionCount;
        private final Rows channels;
        private final Rows windows;
        private int fromInput;
        private int toOutput;
        private int ticks;

        Configuration() {
            partitions = new Partition[MOST_PARTITIONS];
            for (int k = 0; k < MOST_PARTITIONS; k++) {
                partitions[k] = new Partition();
            }
            channels = new Rows(MOST_CHANNELS, CHANNEL_FIRST_GOAL + MOST_GOALS);
            windows = new Rows(MOST_WINDOWS, 2);
        }

        void clear() {
            partitionCount = 0;
            channels.clear();
            windows.clear();
            fromInput = 0;
            toOutput = 0;
            ticks = 0;
        }

        boolean isFull() {
            return partitionCount >= MOST_PARTITIONS;
        }

        void addPartition(long name) {
            if (isFull()) {
                return;
            }
            partitions[partitionCount].begin(name);
            partitionCount++;
        }

        Partition partitionAt(int k) {
            return k >= 0 && k < partitionCount ? partitions[k] : null;
        }

        int findPartition(long name) {
            for (int k = 0; k < partitionCount; k++) {
                if (partitions[k].name == name) {
                    return k;
                }
            }
            return NONE;
        }

        int count(int what) {
            switch (what) {
                case 0:
                    return partitionCount;
                case 1:
                    return channels.count;
                case 2:
                    return windows.count;
                case 3:
                    return fromInput;
                case 4:
                    return toOutput;
                case 5:
                    return ticks;
                default:
                    return NONE;
            }
        }
    }

    /** The words of a text, one at hand at a time, and the fault that was met in it. */
    private static final class Words {
        private static final String KEYWORDS =
            "partition memory process entry priority period deadline handler stopped semaphore event buffer board port in out errors channel sampling queuing input output frame";
        private static final String SIGNS = "{};:.,>";
        private static final int MOST_LETTERS = 12;
        private static final int MOST_DIGITS = 6;
        private static final int END = 0;
        private static final int LETTERS = 1;
        private static final int DIGITS = 2;
        private static final int SIGN = 3;
        private static final int STRANGE = 4;

        private final byte[] text;
        private int end;
        private int from;
        private int to;
        private int kind;
        private int number;
        // Twelve letters and digits of 36 kinds fit in a long in base 37, so a name is one number.
        private long name;
        private int fault;
        private int faultPlace;

        Words(byte[] text) {
            this.text = text;
            kind = END;
            fault = 0;
            faultPlace = NONE;
        }

        void begin(int length) {
            end = Math.min(length, text.length);
            to = 0;
            fault = 0;
            faultPlace = NONE;
            next();
        }

        /** Never returns: a fault at the word at hand. */
        void fail(int what) {
            fault = what;
            faultPlace = from;
            throw new IllegalArgumentException("the text has a fault");
        }

        /** Never returns: a fault at a place that was passed before. */
        void failAt(int what, int where) {
            from = where;
            fail(what);
        }

        /** Takes the next word to hand; a caller looks for faults at the old one before. */
        void next() {
            from = to;
            while (from < end && (text[from] == ' ' || text[from] == '\n')) {
                from++;
            }
            to = from;
            kind = from < end ? kindOf(text[from]) : END;
            if (kind == LETTERS) {
                spell();
            } else if (kind == DIGITS) {
                reckon();
            } else if (kind == SIGN) {
                to++;
            }
            if (kind == STRANGE
                || kind == LETTERS && to - from > MOST_LETTERS
                || kind == DIGITS && to - from > MOST_DIGITS) {
                fail(NO_WORD);
            }
        }

        private static int kindOf(byte first) {
            if (first >= 'a' && first <= 'z') {
                return LETTERS;
            }
            if (first >= '0' && first <= '9') {
                return DIGITS;
            }
            return SIGNS.indexOf((char) (first & 255)) >= 0 ? SIGN : STRANGE;
        }

        private void spell() {
            name = 0;
            for (; to < end; to++) {
                byte c = text[to];
                if (c >= 'a' && c <= 'z') {
                    name = name * 37 + (c - 'a' + 1);
                } else if (c >= '0' && c <= '9') {
                    name = name * 37 + (c - '0' + 27);
                } else {
                    return;
                }
            }
        }

        private void reckon() {
            number = 0;
            for (; to < end && text[to] >= '0' && text[to] <= '9'; to++) {
                number = number * 10 + (text[to] - '0');
            }
        }

        /** Which word of a list, with a space between two, is at hand: from 0 on, or NONE. */
        int whichOf(String list) {
            int word = 0;
            int at = from;
            boolean same = true;
            for (int k = 0; k <= list.length(); k++) {
                char c = k < list.length() ? list.charAt(k) : ' ';
                if (c != ' ') {
                    same = same && at < to && text[at] == c;
                    at++;
                } else if (same && at == to) {
                    return word;
                } else {
                    word++;
                    at = from;
                    same = true;
                }
            }
            return NONE;
        }

        boolean is(String word) {
            return whichOf(word) == 0;
        }

        void expect(String word) {
            if (!is(word)) {
                fail(CANNOT_STAND);
            }
            next();
        }

        void expectEnd() {
            if (kind != END) {
                fail(CANNOT_STAND);
            }
        }

        /** Like whichOf, but one of the list must be at hand. */
        int expectOneOf(String list) {
            int word = whichOf(list);
            if (word == NONE) {
                fail(CANNOT_STAND);
            }
            return word;
        }

        /** The name that must be at hand, and still is afterwards: what may be wrong with it lies at it. */
        long expectName() {
            if (kind != LETTERS || whichOf(KEYWORDS) != NONE) {
                fail(CANNOT_STAND);
            }
            return name;
        }

        int expectNumber(int least, int most, int step) {
            if (kind != DIGITS) {
                fail(CANNOT_STAND);
            }
            int read = number;
            if (read < least || read > most || step > 1 && read % step != 0) {
                fail(BAD_NUMBER);
            }
            next();
            return read;
        }
    }

    /** Reads the parts of a text into a configuration. */
    private static final class Reader {
        private final Words words;
        private final Configuration configuration;
        private boolean errorsTold;
        private int firstHandle;

        Reader(Words words, Configuration configuration) {
            this.words = words;
            this.configuration = configuration;
            errorsTold = false;
            firstHandle = NONE;
        }

        void readPartition() {
            openPartition();
            Partition partition = configuration.partitionAt(configuration.partitionCount - 1);
            if (partition == null) {
                return;
            }
            partition.memory = readSetting("memory", 256, 4096, 256);
            // Every thing takes bytes, so there are never more of them than the text has.
            for (int n = 0; n < MOST_TEXT && !words.is("}"); n++) {
                int sort = words.whichOf(SORTS);
                if (sort == PROCESS) {
                    readProcess(partition);
                } else if (sort == SEMAPHORE) {
                    readSemaphore(partition);
                } else if (sort == BUFFER) {
                    readBuffer(partition);
                } else if (sort == PORT) {
                    readPort(partition);
                } else if (sort == EVENT || sort == BOARD) {
                    nameThing(partition, sort);
                    words.expect(";");
                } else {
                    readErrors(partition);
                }
            }
            closePartition(partition);
        }

        private void openPartition() {
            errorsTold = false;
            firstHandle = NONE;
            words.expect("partition");
            if (configuration.isFull()) {
                words.fail(TOO_MANY);
            }
            long name = words.expectName();
            if (configuration.findPartition(name) != NONE) {
                words.fail(NAME_TWICE);
            }
            configuration.addPartition(name);
            words.next();
            words.expect("{");
        }

        private void closePartition(Partition partition) {
            if (words.is("}") && firstHandle != NONE && partition.handler == NONE) {
                words.failAt(BROKEN_RULE, firstHandle);
            }
            words.expect("}");
        }

        /** Reads a sort's word and a new thing's name; answers the rows, the thing's is the last. */
        private Rows nameThing(Partition partition, int sort) {
            Rows rows = partition.things[sort];
            words.next();
            if (rows.isFull()) {
                words.fail(TOO_MANY);
            }
            long name = words.expectName();
            if (partition.hasThing(name)) {
                words.fail(NAME_TWICE);
            }
            rows.add(name, 0);
            words.next();
            return rows;
        }

        private int readSetting(String word, int least, int most, int step) {
            words.expect(word);
            int number = words.expectNumber(least, most, step);
            words.expect(";");
            return number;
        }

        private void readProcess(Partition partition) {
            Rows processes = nameThing(partition, PROCESS);
            words.expect("{");
            processes.setLast(ENTRY, readSetting("entry", 0, partition.memory - 1, 4));
            processes.setLast(PRIORITY, readSetting("priority", 0, 15, 1));
            if (words.is("period")) {
                processes.setLast(PERIOD, readSetting("period", 1, 100000, 1));
            }
            if (words.is("deadline")) {
                processes.setLast(DEADLINE, readSetting("deadline", 1, 100000, 1));
            }
            if (words.is("handler")) {
                if (partition.handler != NONE) {
                    words.fail(BROKEN_RULE);
                }
                partition.handler = processes.count - 1;
                words.next();
                words.expect(";");
            }
            if (words.is("stopped")) {
                processes.setLast(STOPPED, 1);
                words.next();
                words.expect(";");
            }
            words.expect("}");
        }

        private void readSemaphore(Partition partition) {
            Rows semaphores = nameThing(partition, SEMAPHORE);
            int count = words.expectNumber(0, 100, 1);
            words.expect(":");
            int most = words.expectNumber(Math.max(1, count), 100, 1);
            words.expect(";");
            semaphores.setLast(SEMAPHORE_COUNT, count);
            semaphores.setLast(SEMAPHORE_MOST, most);
        }

        private void readBuffer(Partition partition) {
            Rows buffers = nameThing(partition, BUFFER);
            buffers.setLast(BUFFER_WORDS, words.expectNumber(1, 8, 1));
            words.expect(";");
        }

        private void readPort(Partition partition) {
            Rows ports = nameThing(partition, PORT);
            ports.setLast(PORT_OUT, words.expectOneOf(WAYS));
            words.next();
            ports.setLast(PORT_QUEUING, words.expectOneOf(MODES));
            words.next();
            ports.setLast(PORT_CHANNEL, NONE);
            words.expect(";");
        }

        private void readErrors(Partition partition) {
            if (errorsTold && words.is("errors")) {
                words.fail(BROKEN_RULE);
            }
            words.expect("errors");
            errorsTold = true;
            words.expect("{");
            int told = 0;
            for (int n = 0; n <= KIND_COUNT && (n == 0 || !words.is("}")); n++) {
                int kind = words.expectOneOf(KINDS);
                if ((told & 1 << kind) != 0) {
                    words.fail(BROKEN_RULE);
                }
                told |= 1 << kind;
                words.next();
                words.expect(":");
                partition.setAction(kind, readAction());
                words.expect(";");
            }
            words.expect("}");
        }

        private int readAction() {
            int action = words.expectOneOf(ACTIONS);
            // Whether a handler stands in the partition is known at its end alone.
            if (action == HANDLE && firstHandle == NONE) {
                firstHandle = words.from;
            }
            words.next();
            return action;
        }

        void readChannel() {
            Rows channels = configuration.channels;
            if (channels.isFull()) {
                words.fail(TOO_MANY);
            }
            words.expect("channel");
            int mode = words.expectOneOf(MODES);
            words.next();
            int amount = mode == QUEUING ? words.expectNumber(1, 8, 1) : words.expectNumber(0, 100000, 1);
            channels.add(0, NONE);
            channels.setLast(CHANNEL_QUEUING, mode);
            channels.setLast(CHANNEL_AMOUNT, amount);
            words.expect("{");
            int source = readEnd("input", 1, mode);
            channels.setLast(CHANNEL_SOURCE, source);
            if (source == NONE) {
                configuration.fromInput++;
            }
            words.expect(">");
            readGoals(mode);
            words.expect("}");
        }

        private void readGoals(int mode) {
            Rows channels = configuration.channels;
            boolean output = false;
            int goals = 0;
            boolean more = true;
            for (int n = 0; n <= MOST_GOALS && more; n++) {
                if (goals == MOST_GOALS) {
                    words.fail(TOO_MANY);
                }
                int goal = readEnd("output", 0, mode);
                output = output || goal == NONE;
                channels.setLast(CHANNEL_FIRST_GOAL + goals, goal);
                goals++;
                // The form of a queuing channel has one goal and no comma.
                more = mode != QUEUING && words.is(",");
                if (more) {
                    words.next();
                }
            }
            channels.setLast(CHANNEL_GOALS, goals);
            if (output) {
                configuration.toOutput++;
            }
        }

        /** Reads a SOURCE (out is 1) or a GOAL (0) of the newest channel: its partition, or NONE. */
        private int readEnd(String outside, int out, int mode) {
            if (words.is(outside)) {
                words.next();
                return NONE;
            }
            int owner = readPartitionName();
            words.expect(".");
            long name = words.expectName();
            Partition partition = configuration.partitionAt(owner);
            if (partition == null) {
                return NONE;
            }
            Rows ports = partition.things[PORT];
            int port = ports.find(name);
            if (port == NONE) {
                words.fail(UNKNOWN_NAME);
            }
            if (ports.get(port, PORT_OUT) != out
                || ports.get(port, PORT_QUEUING) != mode
                || ports.get(port, PORT_CHANNEL) != NONE) {
                words.fail(BROKEN_RULE);
            }
            ports.set(port, PORT_CHANNEL, configuration.channels.count - 1);
            words.next();
            return owner;
        }

        private int readPartitionName() {
            int partition = configuration.findPartition(words.expectName());
            if (partition == NONE) {
                words.fail(UNKNOWN_NAME);
            }
            words.next();
            return partition;
        }

        void readFrame() {
            words.expect("frame");
            words.expect("{");
            for (int n = 0; n <= MOST_WINDOWS && (n == 0 || !words.is("}")); n++) {
                readWindow();
            }
            words.expect("}");
        }

        private void readWindow() {
            Rows windows = configuration.windows;
            if (windows.isFull()) {
                words.fail(TOO_MANY);
            }
            int partition = readPartitionName();
            int ticks = words.expectNumber(1, 200, 1);
            words.expect(";");
            windows.add(0, 0);
            windows.setLast(WINDOW_PARTITION, partition);
            windows.setLast(WINDOW_TICKS, ticks);
            configuration.ticks += ticks;
        }
    }
}
