import java.util.Arrays;
import java.util.NoSuchElementException;

/** A calendar of a court; ../shared/DOC.md says what each public method promises. */
public final class CourtCalendar {
    public static final int NONE = -1;

    private static final int MOST_BYTES = 900;
    private static final int MOST_LETTERS = 8;
    private static final int MOST_DIGITS = 3;
    private static final int DAYS = 600;
    private static final int DAYS_A_WEEK = 7;
    private static final int WORKING_DAYS_A_WEEK = 5;
    private static final int SLOTS = 8;
    private static final int REASONS = 4;

    private static final int ROOM = 0;
    private static final int OFFICER = 1;
    private static final int WITNESS = 2;
    private static final int CASE = 3;
    private static final int KINDS = 4;

    private static final int MOST_ROOMS = 3;
    private static final int MOST_OFFICERS = 6;
    private static final int MOST_WITNESSES = 12;
    private static final int MOST_CASES = 12;
    private static final int MOST_HOLIDAYS = 20;
    private static final int MOST_OFFS = 3;
    private static final int MOST_NEEDS = 4;
    private static final int MOST_ADJOURNMENTS = 5;
    private static final int MOST_UNDONE = 8;
    private static final int MOST_DAYS_PASSED = 99;
    private static final int MOST_FILED = 99;
    private static final int MOST_CASE_SLOTS = 4;
    private static final int MOST_LIMIT = 60;
    private static final int MOST_LENGTHENING = 30;
    private static final int MOST_CAP = 60;
    private static final int DEFAULT_CAP = 15;

    // A line of the output is at most a slot, three names, three spaces and a line feed.
    private static final int MOST_OUTPUT = MOST_CASES * (1 + 3 * MOST_LETTERS + 3 + 1);

    private static final int WAITING = 0;
    private static final int PLANNED = 1;
    private static final int HEARD = 2;
    private static final int LAPSED = 3;

    private static final int ADJOURNMENT_PROPERTIES = 4;

    private static final int WRONG_TOKEN = 1;
    private static final int OUT_OF_RANGE = 2;
    private static final int TOLD_WRONGLY = 3;
    private static final int TOO_MANY = 4;

    private final byte[] buffer;
    private int length;
    private final Parser parser;
    private int errorCode;
    private int errorOffset;
    private final State state;
    private final State saved;
    private boolean hasSaved;
    private final State forecast;
    private final State[] past;
    private int pastSize;
    private final Planner planner;
    private final Bench bench;
    private final int[] order;
    private final byte[] output;
    private int outputLength;

    public CourtCalendar() {
        Setup empty = new Setup();
        buffer = new byte[MOST_BYTES];
        parser = new Parser();
        errorCode = 0;
        errorOffset = NONE;
        state = new State(empty);
        saved = new State(empty);
        forecast = new State(empty);
        past = new State[MOST_UNDONE];
        for (int i = 0; i < MOST_UNDONE; i++) {
            past[i] = new State(empty);
        }
        planner = new Planner();
        bench = new Bench();
        order = new int[MOST_CASES];
        output = new byte[MOST_OUTPUT];
    }

    public int feed(int a, int b, int c, int d, int e) {
        if (length + 20 > MOST_BYTES) {
            return NONE;
        }
        append(a);
        append(b);
        append(c);
        append(d);
        append(e);
        return length;
    }

    private void append(int four) {
        for (int shift = 24; shift >= 0; shift -= 8) {
            if (length < buffer.length) {
                buffer[length] = (byte) (four >>> shift);
                length++;
            }
        }
    }

    public boolean truncate(int length) {
        if (length < 0 || length > this.length) {
            return false;
        }
        this.length = length;
        return true;
    }

    public int parse() {
        boolean fine = parser.read(buffer, length);
        length = 0;
        errorCode = parser.code;
        errorOffset = parser.offset;
        if (!fine) {
            return NONE;
        }
        state.begin(parser.exchange(state.setup));
        hasSaved = false;
        pastSize = 0;
        return state.setup.size(CASE);
    }

    public int errorCode() {
        return errorCode;
    }

    public int errorOffset() {
        return errorOffset;
    }

    public int count(int what) {
        switch (what) {
            case 0:
                return state.setup.size(ROOM);
            case 1:
                return state.setup.size(OFFICER);
            case 2:
                return state.setup.size(WITNESS);
            case 3:
                return state.setup.size(CASE);
            case 4:
                return state.holidays.size;
            case 5:
                return state.countBars();
            case 6:
                return state.setup.countConflicts();
            case 7:
                return state.day;
            case 8:
                return state.setup.cap;
            case 9:
                return pastSize;
            case 10:
                return state.countPhase(WAITING);
            case 11:
                return state.countPhase(PLANNED);
            case 12:
                return state.countPhase(HEARD);
            case 13:
                return state.countPhase(LAPSED);
            default:
                return NONE;
        }
    }

    public int find(int kind) throws IllegalArgumentException {
        if (kind < 0 || kind >= KINDS) {
            throw new IllegalArgumentException();
        }
        long name = bufferedName();
        length = 0;
        return name == 0 ? NONE : state.setup.names[kind].indexOf(name);
    }

    /** The packed word that is the whole content of the buffer; 0 if it is no word of a name's length. */
    private long bufferedName() {
        long name = 0;
        if (length > MOST_LETTERS) {
            return 0;
        }
        for (int i = 0; i < length; i++) {
            if (!isLetter(buffer[i])) {
                return 0;
            }
            name = (name << 8) | buffer[i];
        }
        return name;
    }

    public boolean isWorkingDay(int day) throws IllegalArgumentException {
        requireDay(day);
        return state.works(day);
    }

    public int workingDays(int from, int to) throws IllegalArgumentException {
        requireSpan(from, to);
        return state.countWorking(from, to);
    }

    public int lengthening(int reason) throws IllegalArgumentException {
        requireReason(reason);
        return state.setup.reasonDays[reason];
    }

    public int witness(int witness, int what) throws IndexOutOfBoundsException {
        requireExisting(WITNESS, witness);
        switch (what) {
            case 0:
                return state.setup.firstDays[witness];
            case 1:
                return state.lastDays[witness];
            case 2:
                return state.setup.firstSlots[witness];
            case 3:
                return state.setup.lastSlots[witness];
            case 4:
                return state.countNeeding(witness);
            default:
                throw new IndexOutOfBoundsException();
        }
    }

    public boolean isOff(int officer, int day) throws IndexOutOfBoundsException, IllegalArgumentException {
        requireExisting(OFFICER, officer);
        requireDay(day);
        return state.setup.isAway(officer, day);
    }

    public boolean isBarred(int officer, int number) throws IndexOutOfBoundsException {
        requireExisting(OFFICER, officer);
        requireExisting(CASE, number);
        return has(state.barredOfficers(number), officer);
    }

    public int load(int officer) throws IndexOutOfBoundsException {
        requireExisting(OFFICER, officer);
        return state.loadOf(officer);
    }

    public int matter(int number, int what) throws IndexOutOfBoundsException {
        requireExisting(CASE, number);
        Matter matter = state.setup.matters[number];
        Progress progress = state.progress[number];
        switch (what) {
            case 0:
                return matter.filed;
            case 1:
                return matter.slots;
            case 2:
                return matter.limit;
            case 3:
                return progress.lengthening;
            case 4:
                return state.limitDay(number);
            case 5:
                return progress.phase;
            case 6:
                return matter.custody ? 1 : 0;
            case 7:
                return progress.adjournments;
            case 8:
                return Integer.bitCount(matter.needs);
            case 9:
                return Integer.bitCount(matter.conflicts);
            default:
                throw new IndexOutOfBoundsException();
        }
    }

    public int hearing(int number, int what) throws IndexOutOfBoundsException {
        requireExisting(CASE, number);
        Progress progress = state.progress[number];
        switch (what) {
            case 0:
                return progress.day;
            case 1:
                return progress.slot;
            case 2:
                return progress.room;
            case 3:
                return progress.officer;
            default:
                throw new IndexOutOfBoundsException();
        }
    }

    public int adjournment(int number, int index, int what) throws IndexOutOfBoundsException {
        requireExisting(CASE, number);
        Progress progress = state.progress[number];
        if (index < 0 || index >= progress.adjournments || what < 0 || what >= ADJOURNMENT_PROPERTIES) {
            throw new IndexOutOfBoundsException();
        }
        return progress.log[index * ADJOURNMENT_PROPERTIES + what];
    }

    public int caseAt(int room, int day, int slot) throws IndexOutOfBoundsException, IllegalArgumentException {
        requireExisting(ROOM, room);
        requireDay(day);
        requireSlot(slot);
        return state.caseTaking(room, day, slot);
    }

    public int problem(int number, int day, int slot, int room, int officer)
            throws IndexOutOfBoundsException, IllegalArgumentException, IllegalStateException {
        requireHearing(number, day, slot, room, officer);
        requireUnfinished(number);
        return planner.faultOf(state, number, day, slot, room, officer);
    }

    public int opening(int number, int what) throws IndexOutOfBoundsException, IllegalStateException {
        requireExisting(CASE, number);
        if (what < 0 || what > 3) {
            throw new IndexOutOfBoundsException();
        }
        requireUnfinished(number);
        if (!planner.findFirst(state, number, 0)) {
            return NONE;
        }
        switch (what) {
            case 0:
                return planner.day;
            case 1:
                return planner.slot;
            case 2:
                return planner.room;
            default:
                return planner.officer;
        }
    }

    public int openDays(int number) throws IndexOutOfBoundsException, IllegalStateException {
        requireExisting(CASE, number);
        requireUnfinished(number);
        return planner.countOpenDays(state, number);
    }

    public int urgent(int index) throws NoSuchElementException {
        int waiting = state.sortWaiting(order);
        if (index < 0 || index >= waiting) {
            throw new NoSuchElementException();
        }
        return order[index];
    }

    public int slack(int number) throws IndexOutOfBoundsException {
        requireExisting(CASE, number);
        return state.slackOf(number);
    }

    public int eligible(int number) throws IndexOutOfBoundsException {
        requireExisting(CASE, number);
        return allOf(state.setup.size(OFFICER)) & ~state.barredOfficers(number);
    }

    public int fewestOfficers() {
        return bench.countFewest(state);
    }

    public double meanSlack() {
        int sum = 0;
        int waiting = 0;
        for (int number = 0; number < state.setup.size(CASE); number++) {
            if (state.progress[number].phase == WAITING) {
                sum += state.slackOf(number);
                waiting++;
            }
        }
        return waiting == 0 ? 0 : (double) sum / (double) waiting;
    }

    public float usage(int room, int from, int to) throws IndexOutOfBoundsException, IllegalArgumentException {
        requireExisting(ROOM, room);
        requireSpan(from, to);
        int all = Integer.bitCount(state.setup.roomSlots[room]) * state.countWorking(from, to);
        return all == 0 ? 0 : (float) state.countTaken(room, from, to) / (float) all;
    }

    public int pass(int days) throws IllegalArgumentException {
        requirePassable(days);
        remember();
        return state.passDays(days);
    }

    public int plan(int number, int day, int slot, int room, int officer)
            throws IndexOutOfBoundsException, IllegalArgumentException, IllegalStateException {
        requireHearing(number, day, slot, room, officer);
        requireUnfinished(number);
        if (planner.faultOf(state, number, day, slot, room, officer) != 0) {
            throw new IllegalStateException();
        }
        remember();
        state.progress[number].setHearing(day, slot, room, officer);
        return state.countWorking(day + 1, state.limitDay(number));
    }

    public int planNext(int number)
            throws IndexOutOfBoundsException, IllegalStateException, NoSuchElementException {
        requireExisting(CASE, number);
        if (state.progress[number].phase != WAITING) {
            throw new IllegalStateException();
        }
        if (!planner.findFirst(state, number, 0)) {
            throw new NoSuchElementException();
        }
        remember();
        planner.setFound(state, number);
        return planner.day;
    }

    public int planAll() {
        remember();
        return planner.planWaiting(state, 0);
    }

    public int adjourn(int number, int reason)
            throws IndexOutOfBoundsException, IllegalArgumentException, IllegalStateException {
        requireExisting(CASE, number);
        requireReason(reason);
        Progress progress = state.progress[number];
        if (progress.phase != PLANNED || progress.adjournments >= MOST_ADJOURNMENTS) {
            throw new IllegalStateException();
        }
        remember();
        state.takeAway(number, reason);
        return state.limitDay(number);
    }

    public int withdraw(int witness, int day) throws IndexOutOfBoundsException, IllegalArgumentException {
        requireExisting(WITNESS, witness);
        requireComingDay(day);
        remember();
        state.lastDays[witness] = Math.min(state.lastDays[witness], day - 1);
        int taken = 0;
        for (int number = 0; number < state.setup.size(CASE); number++) {
            Progress progress = state.progress[number];
            boolean needed = has(state.setup.matters[number].needs, witness);
            if (progress.phase == PLANNED && progress.day >= day && needed) {
                state.takeAway(number, 0);
                taken++;
            }
        }
        return taken;
    }

    public int addHoliday(int day) throws IllegalArgumentException, IllegalStateException {
        requireComingDay(day);
        if (!state.works(day) || state.holidays.size >= MOST_HOLIDAYS) {
            throw new IllegalStateException();
        }
        remember();
        state.holidays.add(day);
        int taken = 0;
        for (int number = 0; number < state.setup.size(CASE); number++) {
            Progress progress = state.progress[number];
            if (progress.phase == PLANNED && progress.day == day) {
                state.takeAway(number, 3);
                taken++;
            }
        }
        return taken;
    }

    public boolean addBar(int officer, int number) throws IndexOutOfBoundsException, IllegalStateException {
        requireExisting(OFFICER, officer);
        requireExisting(CASE, number);
        if (has(state.bars[number], officer)) {
            throw new IllegalStateException();
        }
        remember();
        state.bars[number] |= 1 << officer;
        Progress progress = state.progress[number];
        boolean taken = progress.phase == PLANNED && progress.officer == officer;
        if (taken) {
            state.takeAway(number, 1);
        }
        return taken;
    }

    public int undo() throws IllegalStateException {
        if (pastSize <= 0 || pastSize > past.length) {
            throw new IllegalStateException();
        }
        pastSize--;
        state.copyFrom(past[pastSize]);
        return pastSize;
    }

    /** Keeps the state before a change, in place of the oldest one if there are too many. */
    private void remember() {
        if (pastSize >= MOST_UNDONE) {
            State oldest = past[0];
            for (int i = 1; i < past.length; i++) {
                past[i - 1] = past[i];
            }
            past[past.length - 1] = oldest;
            pastSize = MOST_UNDONE - 1;
        }
        past[pastSize].copyFrom(state);
        pastSize++;
    }

    public int lapsesIn(int days) throws IllegalArgumentException {
        requirePassable(days);
        int before = state.countPhase(LAPSED);
        forecast.copyFrom(state);
        forecast.passDays(days);
        return forecast.countPhase(LAPSED) - before;
    }

    public int plannable() {
        return forecastPlanned(0);
    }

    /** The number of cases that would be planned now if these officers were off on all days. */
    private int forecastPlanned(int absent) {
        forecast.copyFrom(state);
        return planner.planWaiting(forecast, absent);
    }

    public int keyOfficer() {
        int fewest = forecastPlanned(0);
        int key = NONE;
        for (int officer = 0; officer < state.setup.size(OFFICER); officer++) {
            int planned = forecastPlanned(1 << officer);
            if (planned < fewest) {
                fewest = planned;
                key = officer;
            }
        }
        return key;
    }

    public int printDay(int day) throws IllegalArgumentException {
        requireDay(day);
        outputLength = 0;
        for (int slot = 0; slot < SLOTS; slot++) {
            for (int room = 0; room < state.setup.size(ROOM); room++) {
                int number = state.caseTaking(room, day, slot);
                if (number != NONE && state.progress[number].slot == slot) {
                    printHearing(number);
                }
            }
        }
        return outputLength;
    }

    private void printHearing(int number) {
        Progress progress = state.progress[number];
        print((byte) ('0' + progress.slot));
        print((byte) ' ');
        printName(ROOM, progress.room);
        print((byte) ' ');
        printName(CASE, number);
        print((byte) ' ');
        printName(OFFICER, progress.officer);
        print((byte) '\n');
    }

    private void printName(int kind, int index) {
        long name = state.setup.names[kind].at(index);
        for (int shift = 56; shift >= 0; shift -= 8) {
            byte letter = (byte) (name >>> shift);
            if (letter != 0) {
                print(letter);
            }
        }
    }

    private void print(byte sign) {
        if (outputLength < output.length) {
            output[outputLength] = sign;
            outputLength++;
        }
    }

    public int outputByte(int index) {
        return index < 0 || index >= outputLength ? NONE : output[index];
    }

    public int saveState() {
        saved.copyFrom(state);
        hasSaved = true;
        return state.day;
    }

    public int restoreState() throws IllegalStateException {
        if (!hasSaved) {
            throw new IllegalStateException();
        }
        state.copyFrom(saved);
        pastSize = 0;
        return state.day;
    }

    private void requireExisting(int kind, int index) {
        if (index < 0 || index >= state.setup.size(kind)) {
            throw new IndexOutOfBoundsException();
        }
    }

    private void requireDay(int day) {
        if (day < 0 || day >= DAYS) {
            throw new IllegalArgumentException();
        }
    }

    private void requireComingDay(int day) {
        if (day < state.day || day >= DAYS) {
            throw new IllegalArgumentException();
        }
    }

    private void requireSpan(int from, int to) {
        if (from < 0 || to < from || to >= DAYS) {
            throw new IllegalArgumentException();
        }
    }

    private void requireSlot(int slot) {
        if (slot < 0 || slot >= SLOTS) {
            throw new IllegalArgumentException();
        }
    }

    private void requireReason(int reason) {
        if (reason < 0 || reason >= REASONS) {
            throw new IllegalArgumentException();
        }
    }

    private void requirePassable(int days) {
        if (days < 1 || days > MOST_DAYS_PASSED || state.day + days >= DAYS) {
            throw new IllegalArgumentException();
        }
    }

    private void requireHearing(int number, int day, int slot, int room, int officer) {
        requireExisting(CASE, number);
        requireExisting(ROOM, room);
        requireExisting(OFFICER, officer);
        requireDay(day);
        requireSlot(slot);
    }

    private void requireUnfinished(int number) {
        int phase = state.progress[number].phase;
        if (phase != WAITING && phase != PLANNED) {
            throw new IllegalStateException();
        }
    }

    private static boolean isLetter(byte sign) {
        return sign >= 'a' && sign <= 'z';
    }

    private static boolean has(int set, int member) {
        return (set >>> member & 1) != 0;
    }

    private static int allOf(int size) {
        return (1 << size) - 1;
    }

    /** The set of so many slots from the first one on; what lies beyond the last slot of a day stays in it. */
    private static int slotSet(int first, int slots) {
        return ((1 << slots) - 1) << first;
    }

    /** What a token is: one of the quoted words, or of the kinds without a word of their own. */
    private enum Token {
        HOLIDAY("holiday"), ROOM("room"), SLOTS("slots"), OFFICER("officer"), OFF("off"),
        WITNESS("witness"), DAYS("days"), CASE("case"), FILED("filed"), LIMIT("limit"),
        CUSTODY("custody"), NEEDS("needs"), BAR("bar"), CONFLICT("conflict"),
        LENGTHEN("lengthen"), CAP("cap"),
        NAME(""), NUMBER(""), SEMICOLON(""), END(""), WRONG("");

        private static final Token[] ALL = values();

        private final long packed;

        Token(String text) {
            long letters = 0;
            for (int i = 0; i < text.length(); i++) {
                letters = (letters << 8) | text.charAt(i);
            }
            packed = letters;
        }

        /** A word is never packed to 0, so that only the quoted ones are found. */
        static Token ofWord(long word) {
            for (int i = 0; i < ALL.length; i++) {
                if (ALL[i].packed == word) {
                    return ALL[i];
                }
            }
            return NAME;
        }
    }

    /** Splits the bytes of a setup text into tokens; what can stand nowhere is a WRONG one. */
    private static final class Scanner {
        private byte[] text = new byte[0];
        private int length;
        private int start;
        private int end;
        private Token token = Token.END;
        private long word;
        private int number;

        void begin(byte[] bytes, int size) {
            text = bytes;
            length = Math.min(size, bytes.length);
            end = 0;
            advance();
        }

        void advance() {
            while (end < length && (text[end] == ' ' || text[end] == '\n')) {
                end++;
            }
            start = end;
            word = 0;
            number = 0;
            if (end >= length) {
                token = Token.END;
            } else if (isLetter(text[end])) {
                while (end < length && isLetter(text[end])) {
                    word = (word << 8) | text[end];
                    end++;
                }
                token = end - start > MOST_LETTERS ? Token.WRONG : Token.ofWord(word);
            } else if (isDigit(text[end])) {
                while (end < length && isDigit(text[end])) {
                    number = number * 10 + (text[end] - '0');
                    end++;
                }
                token = end - start > MOST_DIGITS ? Token.WRONG : Token.NUMBER;
            } else {
                token = text[end] == ';' ? Token.SEMICOLON : Token.WRONG;
                end++;
            }
        }

        private static boolean isDigit(byte sign) {
            return sign >= '0' && sign <= '9';
        }
    }

    /**
     * Reads a setup text. The sees methods look at the present token, the takes methods step behind it as well;
     * all answer false, with the error told, if it cannot stand.
     */
    private static final class Parser {
        private final Scanner scanner = new Scanner();
        private Setup setup = new Setup();
        private int code;
        private int offset = NONE;
        private int taken;
        private int first;
        private int last;

        boolean read(byte[] text, int length) {
            code = 0;
            offset = NONE;
            setup.clear();
            scanner.begin(text, length);
            for (int statements = 0; statements <= MOST_BYTES; statements++) {
                if (scanner.token == Token.END) {
                    return true;
                }
                if (!takesStatement() || !takes(Token.SEMICOLON)) {
                    return false;
                }
            }
            return false;
        }

        /** Hands out the setup that was read, and reads into the other one from now on. */
        Setup exchange(Setup other) {
            Setup complete = setup;
            setup = other;
            return complete;
        }

        private boolean fail(int error) {
            code = error;
            offset = scanner.start;
            return false;
        }

        private boolean takesStatement() {
            switch (scanner.token) {
                case HOLIDAY:
                    return takesHoliday();
                case ROOM:
                    return takesRoom();
                case OFFICER:
                    return takesOfficer();
                case WITNESS:
                    return takesWitness();
                case CASE:
                    return takesCase();
                case BAR:
                    return takesBar();
                case CONFLICT:
                    return takesConflict();
                case LENGTHEN:
                    return takesLengthen();
                case CAP:
                    return takesCap();
                default:
                    return fail(WRONG_TOKEN);
            }
        }

        private boolean takesHoliday() {
            if (setup.holidays.size >= MOST_HOLIDAYS) {
                return fail(TOO_MANY);
            }
            scanner.advance();
            if (!seesNumber(0, DAYS - 1)) {
                return false;
            }
            if (setup.holidays.contains(scanner.number)) {
                return fail(TOLD_WRONGLY);
            }
            setup.holidays.add(scanner.number);
            scanner.advance();
            return true;
        }

        private boolean takesRoom() {
            if (!takesNewName(ROOM) || !takes(Token.SLOTS) || !takesSpan(SLOTS - 1)) {
                return false;
            }
            setup.roomSlots[setup.size(ROOM) - 1] = slotSet(first, last - first + 1);
            return true;
        }

        private boolean takesOfficer() {
            if (!takesNewName(OFFICER)) {
                return false;
            }
            for (int times = 0; scanner.token == Token.OFF; times++) {
                if (times >= MOST_OFFS) {
                    return fail(TOO_MANY);
                }
                scanner.advance();
                if (!takesSpan(DAYS - 1)) {
                    return false;
                }
                setup.addOff(setup.size(OFFICER) - 1, first, last);
            }
            return true;
        }

        private boolean takesWitness() {
            if (!takesNewName(WITNESS) || !takes(Token.DAYS) || !takesSpan(DAYS - 1)) {
                return false;
            }
            int witness = setup.size(WITNESS) - 1;
            setup.firstDays[witness] = first;
            setup.lastDays[witness] = last;
            first = 0;
            last = SLOTS - 1;
            if (scanner.token == Token.SLOTS) {
                scanner.advance();
                if (!takesSpan(SLOTS - 1)) {
                    return false;
                }
            }
            setup.firstSlots[witness] = first;
            setup.lastSlots[witness] = last;
            return true;
        }

        private boolean takesCase() {
            if (!takesNewName(CASE)) {
                return false;
            }
            Matter matter = setup.matters[setup.size(CASE) - 1];
            if (!takes(Token.FILED) || !takesNumber(0, MOST_FILED)) {
                return false;
            }
            matter.filed = taken;
            if (!takes(Token.SLOTS) || !takesNumber(1, MOST_CASE_SLOTS)) {
                return false;
            }
            matter.slots = taken;
            if (!takes(Token.LIMIT) || !takesNumber(1, MOST_LIMIT)) {
                return false;
            }
            matter.limit = taken;
            if (scanner.token == Token.CUSTODY) {
                matter.custody = true;
                scanner.advance();
            }
            return takesNeeds(matter);
        }

        private boolean takesNeeds(Matter matter) {
            for (int needs = 0; scanner.token == Token.NEEDS; needs++) {
                if (needs >= MOST_NEEDS) {
                    return fail(TOO_MANY);
                }
                scanner.advance();
                if (!seesToldName(WITNESS)) {
                    return false;
                }
                if (has(matter.needs, taken)) {
                    return fail(TOLD_WRONGLY);
                }
                matter.needs |= 1 << taken;
                scanner.advance();
            }
            return true;
        }

        private boolean takesBar() {
            scanner.advance();
            if (!seesToldName(OFFICER)) {
                return false;
            }
            int officer = taken;
            scanner.advance();
            if (!seesToldName(CASE)) {
                return false;
            }
            Matter matter = setup.matters[taken];
            if (has(matter.bars, officer)) {
                return fail(TOLD_WRONGLY);
            }
            matter.bars |= 1 << officer;
            scanner.advance();
            return true;
        }

        private boolean takesConflict() {
            scanner.advance();
            if (!seesToldName(CASE)) {
                return false;
            }
            int one = taken;
            scanner.advance();
            if (!seesToldName(CASE)) {
                return false;
            }
            int other = taken;
            if (other == one || has(setup.matters[one].conflicts, other)) {
                return fail(TOLD_WRONGLY);
            }
            setup.matters[one].conflicts |= 1 << other;
            setup.matters[other].conflicts |= 1 << one;
            scanner.advance();
            return true;
        }

        private boolean takesLengthen() {
            scanner.advance();
            if (!seesNumber(0, REASONS - 1)) {
                return false;
            }
            int reason = scanner.number;
            if (has(setup.toldReasons, reason)) {
                return fail(TOLD_WRONGLY);
            }
            setup.toldReasons |= 1 << reason;
            scanner.advance();
            if (!takesNumber(0, MOST_LENGTHENING)) {
                return false;
            }
            setup.reasonDays[reason] = taken;
            return true;
        }

        private boolean takesCap() {
            if (setup.toldCap) {
                return fail(TOLD_WRONGLY);
            }
            setup.toldCap = true;
            scanner.advance();
            if (!takesNumber(0, MOST_CAP)) {
                return false;
            }
            setup.cap = taken;
            return true;
        }

        private boolean takes(Token token) {
            if (scanner.token != token) {
                return fail(WRONG_TOKEN);
            }
            scanner.advance();
            return true;
        }

        /** The first word of a statement and the new name behind it, which becomes the last one of its kind. */
        private boolean takesNewName(int kind) {
            Names names = setup.names[kind];
            if (names.isFull()) {
                return fail(TOO_MANY);
            }
            scanner.advance();
            if (scanner.token != Token.NAME) {
                return fail(WRONG_TOKEN);
            }
            if (names.indexOf(scanner.word) != NONE) {
                return fail(TOLD_WRONGLY);
            }
            names.add(scanner.word);
            scanner.advance();
            return true;
        }

        private boolean seesToldName(int kind) {
            if (scanner.token != Token.NAME) {
                return fail(WRONG_TOKEN);
            }
            taken = setup.names[kind].indexOf(scanner.word);
            return taken != NONE || fail(TOLD_WRONGLY);
        }

        private boolean seesNumber(int least, int most) {
            if (scanner.token != Token.NUMBER) {
                return fail(WRONG_TOKEN);
            }
            return scanner.number >= least && scanner.number <= most || fail(OUT_OF_RANGE);
        }

        private boolean takesNumber(int least, int most) {
            if (!seesNumber(least, most)) {
                return false;
            }
            taken = scanner.number;
            scanner.advance();
            return true;
        }

        private boolean takesSpan(int most) {
            if (!takesNumber(0, most)) {
                return false;
            }
            first = taken;
            if (!takesNumber(first, most)) {
                return false;
            }
            last = taken;
            return true;
        }
    }

    /** The names of one kind in their order; a name is packed into a long, a byte for each letter. */
    private static final class Names {
        private final long[] packed;
        private int size;

        Names(int most) {
            packed = new long[Math.max(most, 0)];
        }

        boolean isFull() {
            return size >= packed.length;
        }

        void add(long name) {
            if (size < packed.length) {
                packed[size] = name;
                size++;
            }
        }

        int indexOf(long name) {
            for (int i = 0; i < size; i++) {
                if (packed[i] == name) {
                    return i;
                }
            }
            return NONE;
        }

        long at(int index) {
            return index < 0 || index >= size ? 0 : packed[index];
        }
    }

    /** A set of days. */
    private static final class Days {
        private final int[] bits = new int[(DAYS + 31) / 32];
        private int size;

        boolean contains(int day) {
            return day >= 0 && day < DAYS && (bits[day / 32] >>> day % 32 & 1) != 0;
        }

        void add(int day) {
            if (day >= 0 && day < DAYS && !contains(day)) {
                bits[day / 32] |= 1 << day % 32;
                size++;
            }
        }

        void clear() {
            Arrays.fill(bits, 0);
            size = 0;
        }

        void copyFrom(Days other) {
            System.arraycopy(other.bits, 0, bits, 0, bits.length);
            size = other.size;
        }
    }

    /** What the text tells of a case; needs, conflicts and bars are sets of witnesses, cases and officers. */
    private static final class Matter {
        private int filed;
        private int slots;
        private int limit;
        private boolean custody;
        private int needs;
        private int conflicts;
        private int bars;

        void clear() {
            filed = 0;
            slots = 1;
            limit = 1;
            custody = false;
            needs = 0;
            conflicts = 0;
            bars = 0;
        }
    }

    /** What the setup text tells; changes of the calendar leave it alone. */
    private static final class Setup {
        private final Names[] names = new Names[KINDS];
        private final int[] roomSlots = new int[MOST_ROOMS];
        private final int[] offs = new int[MOST_OFFICERS];
        private final int[] firstOffs = new int[MOST_OFFICERS * MOST_OFFS];
        private final int[] lastOffs = new int[MOST_OFFICERS * MOST_OFFS];
        private final int[] firstDays = new int[MOST_WITNESSES];
        private final int[] lastDays = new int[MOST_WITNESSES];
        private final int[] firstSlots = new int[MOST_WITNESSES];
        private final int[] lastSlots = new int[MOST_WITNESSES];
        private final Matter[] matters = new Matter[MOST_CASES];
        private final Days holidays = new Days();
        private final int[] reasonDays = new int[REASONS];
        private int toldReasons;
        private int cap;
        private boolean toldCap;

        Setup() {
            names[ROOM] = new Names(MOST_ROOMS);
            names[OFFICER] = new Names(MOST_OFFICERS);
            names[WITNESS] = new Names(MOST_WITNESSES);
            names[CASE] = new Names(MOST_CASES);
            for (int i = 0; i < MOST_CASES; i++) {
                matters[i] = new Matter();
            }
            clear();
        }

        void clear() {
            for (int kind = 0; kind < KINDS; kind++) {
                names[kind].size = 0;
            }
            for (int i = 0; i < MOST_CASES; i++) {
                matters[i].clear();
            }
            Arrays.fill(offs, 0);
            holidays.clear();
            reasonDays[0] = 10;
            reasonDays[1] = 5;
            reasonDays[2] = 0;
            reasonDays[3] = 0;
            toldReasons = 0;
            cap = DEFAULT_CAP;
            toldCap = false;
        }

        int size(int kind) {
            return names[kind].size;
        }

        void addOff(int officer, int first, int last) {
            if (offs[officer] < MOST_OFFS) {
                int index = officer * MOST_OFFS + offs[officer];
                firstOffs[index] = first;
                lastOffs[index] = last;
                offs[officer]++;
            }
        }

        boolean isAway(int officer, int day) {
            int start = officer * MOST_OFFS;
            for (int index = start; index < start + offs[officer]; index++) {
                if (day >= firstOffs[index] && day <= lastOffs[index]) {
                    return true;
                }
            }
            return false;
        }

        int awayOfficers(int day) {
            int away = 0;
            for (int officer = 0; officer < size(OFFICER); officer++) {
                if (isAway(officer, day)) {
                    away |= 1 << officer;
                }
            }
            return away;
        }

        int countConflicts() {
            int ends = 0;
            for (int number = 0; number < size(CASE); number++) {
                ends += Integer.bitCount(matters[number].conflicts);
            }
            return ends / 2;
        }
    }

    /** How far a case has come, with its hearing, if it has one, and its adjournments. */
    private static final class Progress {
        private int phase;
        private int lengthening;
        private int day;
        private int slot;
        private int room;
        private int officer;
        private int adjournments;
        private final int[] log = new int[MOST_ADJOURNMENTS * ADJOURNMENT_PROPERTIES];

        void clear() {
            lengthening = 0;
            adjournments = 0;
            dropHearing();
        }

        void copyFrom(Progress other) {
            phase = other.phase;
            lengthening = other.lengthening;
            day = other.day;
            slot = other.slot;
            room = other.room;
            officer = other.officer;
            adjournments = other.adjournments;
            System.arraycopy(other.log, 0, log, 0, log.length);
        }

        boolean isOn(int someDay) {
            return (phase == PLANNED || phase == HEARD) && day == someDay;
        }

        void setHearing(int newDay, int newSlot, int newRoom, int newOfficer) {
            phase = PLANNED;
            day = newDay;
            slot = newSlot;
            room = newRoom;
            officer = newOfficer;
        }

        void dropHearing() {
            phase = WAITING;
            day = NONE;
            slot = NONE;
            room = NONE;
            officer = NONE;
        }

        void note(int madeOn, int reason, int growth) {
            if (adjournments < MOST_ADJOURNMENTS) {
                int start = adjournments * ADJOURNMENT_PROPERTIES;
                log[start] = madeOn;
                log[start + 1] = reason;
                log[start + 2] = day;
                log[start + 3] = growth;
                adjournments++;
            }
        }
    }

    /** All that changes can change, over the setup that they leave alone. */
    private static final class State {
        // No limit day comes near it, so that counting days always ends.
        private static final int FAR = 10000;

        private Setup setup;
        private int day;
        private final Days holidays = new Days();
        private final int[] lastDays = new int[MOST_WITNESSES];
        private final int[] bars = new int[MOST_CASES];
        private final Progress[] progress = new Progress[MOST_CASES];

        State(Setup empty) {
            setup = empty;
            for (int i = 0; i < MOST_CASES; i++) {
                progress[i] = new Progress();
                progress[i].clear();
            }
        }

        void begin(Setup newSetup) {
            setup = newSetup;
            day = 0;
            holidays.copyFrom(newSetup.holidays);
            System.arraycopy(newSetup.lastDays, 0, lastDays, 0, lastDays.length);
            for (int i = 0; i < MOST_CASES; i++) {
                bars[i] = newSetup.matters[i].bars;
                progress[i].clear();
            }
        }

        void copyFrom(State other) {
            setup = other.setup;
            day = other.day;
            holidays.copyFrom(other.holidays);
            System.arraycopy(other.lastDays, 0, lastDays, 0, lastDays.length);
            System.arraycopy(other.bars, 0, bars, 0, bars.length);
            for (int i = 0; i < MOST_CASES; i++) {
                progress[i].copyFrom(other.progress[i]);
            }
        }

        boolean works(int someDay) {
            return someDay % DAYS_A_WEEK < WORKING_DAYS_A_WEEK && !holidays.contains(someDay);
        }

        int countWorking(int from, int to) {
            int working = 0;
            for (int someDay = from; someDay <= to; someDay++) {
                if (works(someDay)) {
                    working++;
                }
            }
            return working;
        }

        int limitDay(int number) {
            Matter matter = setup.matters[number];
            int left = matter.limit + progress[number].lengthening;
            int someDay = matter.filed;
            while (left > 0 && someDay < FAR) {
                someDay++;
                if (works(someDay)) {
                    left--;
                }
            }
            return someDay;
        }

        int slackOf(int number) {
            return countWorking(day, limitDay(number));
        }

        int countPhase(int phase) {
            int found = 0;
            for (int number = 0; number < setup.size(CASE); number++) {
                if (progress[number].phase == phase) {
                    found++;
                }
            }
            return found;
        }

        int countBars() {
            int found = 0;
            for (int number = 0; number < setup.size(CASE); number++) {
                found += Integer.bitCount(bars[number]);
            }
            return found;
        }

        int countNeeding(int witness) {
            int found = 0;
            for (int number = 0; number < setup.size(CASE); number++) {
                if (progress[number].phase == PLANNED && has(setup.matters[number].needs, witness)) {
                    found++;
                }
            }
            return found;
        }

        int loadOf(int officer) {
            int slots = 0;
            for (int number = 0; number < setup.size(CASE); number++) {
                if (progress[number].officer == officer) {
                    slots += setup.matters[number].slots;
                }
            }
            return slots;
        }

        int countTaken(int room, int from, int to) {
            int slots = 0;
            for (int number = 0; number < setup.size(CASE); number++) {
                Progress one = progress[number];
                if (one.room == room && one.day >= from && one.day <= to && works(one.day)) {
                    slots += setup.matters[number].slots;
                }
            }
            return slots;
        }

        int caseTaking(int room, int someDay, int slot) {
            for (int number = 0; number < setup.size(CASE); number++) {
                if (progress[number].isOn(someDay) && progress[number].room == room && has(slotsOf(number), slot)) {
                    return number;
                }
            }
            return NONE;
        }

        /** The slots of the hearing that the case has. */
        int slotsOf(int number) {
            return slotSet(progress[number].slot, setup.matters[number].slots);
        }

        int barredOfficers(int number) {
            int barred = bars[number];
            int conflicts = setup.matters[number].conflicts;
            for (int other = 0; other < setup.size(CASE); other++) {
                if (has(conflicts, other) && progress[other].officer != NONE) {
                    barred |= 1 << progress[other].officer;
                }
            }
            return barred;
        }

        /** The slots of a day that are in no common window of these witnesses. */
        int slotsOutside(int witnesses, int someDay) {
            int outside = 0;
            for (int witness = 0; witness < setup.size(WITNESS); witness++) {
                if (has(witnesses, witness)) {
                    boolean onDay = someDay >= setup.firstDays[witness] && someDay <= lastDays[witness];
                    int first = setup.firstSlots[witness];
                    outside |= ~(onDay ? slotSet(first, setup.lastSlots[witness] - first + 1) : 0);
                }
            }
            return outside;
        }

        /** Puts the waiting cases into the row in the order of urgency, and tells how many there are. */
        int sortWaiting(int[] row) {
            int size = 0;
            for (int number = 0; number < setup.size(CASE) && size < row.length; number++) {
                if (progress[number].phase == WAITING) {
                    insert(row, size, urgencyKey(number));
                    size++;
                }
            }
            for (int i = 0; i < size; i++) {
                row[i] %= MOST_CASES;
            }
            return size;
        }

        /** The smaller, the more urgent; its remainder by MOST_CASES is the case. */
        private int urgencyKey(int number) {
            int later = setup.matters[number].custody ? 0 : 1;
            return (limitDay(number) * 2 + later) * MOST_CASES + number;
        }

        private static void insert(int[] row, int size, int key) {
            int place = size;
            while (place > 0 && row[place - 1] > key) {
                row[place] = row[place - 1];
                place--;
            }
            row[place] = key;
        }

        /** Takes the hearing of a planned case away, by an adjournment if it may have one more. */
        void takeAway(int number, int reason) {
            Progress one = progress[number];
            if (one.adjournments < MOST_ADJOURNMENTS) {
                int longer = one.lengthening + setup.reasonDays[reason];
                if (setup.matters[number].custody) {
                    longer = Math.min(longer, setup.cap);
                }
                one.note(day, reason, longer - one.lengthening);
                one.lengthening = longer;
            }
            one.dropHearing();
        }

        /**
         * Lets days pass, and tells how many cases were heard. All days pass at once, as what is heard or lapses on
         * one of them changes nothing for the others.
         */
        int passDays(int days) {
            int heard = 0;
            day += days;
            for (int number = 0; number < setup.size(CASE); number++) {
                if (progress[number].phase == PLANNED && progress[number].day < day) {
                    progress[number].phase = HEARD;
                    heard++;
                }
            }
            for (int number = 0; number < setup.size(CASE); number++) {
                if (progress[number].phase == WAITING && limitDay(number) < day) {
                    progress[number].phase = LAPSED;
                }
            }
            return heard;
        }
    }

    /** Judges and looks for hearings; the one found is kept until the next search. */
    private static final class Planner {
        private final int[] roomTaken = new int[MOST_ROOMS];
        private final int[] officerTaken = new int[MOST_OFFICERS];
        private final int[] loads = new int[MOST_OFFICERS];
        private final int[] order = new int[MOST_CASES];
        private int barred;
        private int away;
        private int outside;
        private int witnessTaken;
        private int day;
        private int slot;
        private int room;
        private int officer;

        int faultOf(State state, int number, int someDay, int someSlot, int someRoom, int someOfficer) {
            Matter matter = state.setup.matters[number];
            if (someDay < state.day || someDay < matter.filed || !state.works(someDay)) {
                return 1;
            }
            if (someDay > state.limitDay(number)) {
                return 2;
            }
            lookAtOfficers(state, number);
            lookAtDay(state, number, someDay, 0);
            int slots = slotSet(someSlot, matter.slots);
            if ((slots & ~state.setup.roomSlots[someRoom]) != 0) {
                return 3;
            }
            if ((slots & roomTaken[someRoom]) != 0) {
                return 4;
            }
            if (has(away, someOfficer)) {
                return 5;
            }
            if ((slots & officerTaken[someOfficer]) != 0) {
                return 6;
            }
            if (has(barred, someOfficer)) {
                return 7;
            }
            if ((slots & outside) != 0) {
                return 8;
            }
            return (slots & witnessTaken) != 0 ? 9 : 0;
        }

        /** Finds the first opening of a case if these officers are off on all days. */
        boolean findFirst(State state, int number, int absent) {
            lookAtOfficers(state, number);
            int last = lastDay(state, number);
            for (int someDay = firstDay(state, number); someDay <= last; someDay++) {
                if (findOn(state, number, someDay, absent)) {
                    return true;
                }
            }
            return false;
        }

        int countOpenDays(State state, int number) {
            lookAtOfficers(state, number);
            int last = lastDay(state, number);
            int found = 0;
            for (int someDay = firstDay(state, number); someDay <= last; someDay++) {
                if (findOn(state, number, someDay, 0)) {
                    found++;
                }
            }
            return found;
        }

        void setFound(State state, int number) {
            state.progress[number].setHearing(day, slot, room, officer);
        }

        int planWaiting(State state, int absent) {
            int waiting = state.sortWaiting(order);
            int planned = 0;
            for (int i = 0; i < waiting; i++) {
                if (findFirst(state, order[i], absent)) {
                    setFound(state, order[i]);
                    planned++;
                }
            }
            return planned;
        }

        private static int firstDay(State state, int number) {
            return Math.max(state.day, state.setup.matters[number].filed);
        }

        private static int lastDay(State state, int number) {
            return Math.min(state.limitDay(number), DAYS - 1);
        }

        private boolean findOn(State state, int number, int someDay, int absent) {
            if (!state.works(someDay)) {
                return false;
            }
            lookAtDay(state, number, someDay, absent);
            int needed = state.setup.matters[number].slots;
            for (int someSlot = 0; someSlot + needed <= SLOTS; someSlot++) {
                int slots = slotSet(someSlot, needed);
                if ((slots & (outside | witnessTaken)) == 0 && findIn(state.setup, slots)) {
                    day = someDay;
                    slot = someSlot;
                    return true;
                }
            }
            return false;
        }

        /** Finds the room and the officer for these slots of the day that was looked at. */
        private boolean findIn(Setup setup, int slots) {
            int least = leastLoaded(setup.size(OFFICER), slots);
            for (int someRoom = 0; someRoom < setup.size(ROOM) && least != NONE; someRoom++) {
                if ((slots & (roomTaken[someRoom] | ~setup.roomSlots[someRoom])) == 0) {
                    room = someRoom;
                    officer = least;
                    return true;
                }
            }
            return false;
        }

        private int leastLoaded(int officers, int slots) {
            int least = NONE;
            for (int i = 0; i < officers; i++) {
                boolean free = !has(barred | away, i) && (slots & officerTaken[i]) == 0;
                if (free && (least == NONE || loads[i] < loads[least])) {
                    least = i;
                }
            }
            return least;
        }

        private void lookAtOfficers(State state, int number) {
            barred = state.barredOfficers(number);
            for (int i = 0; i < state.setup.size(OFFICER); i++) {
                loads[i] = state.loadOf(i);
            }
        }

        /** Looks at what stands against a hearing of the case on this day, its own present hearing left out. */
        private void lookAtDay(State state, int number, int someDay, int absent) {
            Setup setup = state.setup;
            int needs = setup.matters[number].needs;
            Arrays.fill(roomTaken, 0);
            Arrays.fill(officerTaken, 0);
            witnessTaken = 0;
            away = absent | setup.awayOfficers(someDay);
            outside = state.slotsOutside(needs, someDay);
            for (int other = 0; other < setup.size(CASE); other++) {
                Progress progress = state.progress[other];
                if (other != number && progress.isOn(someDay)) {
                    int slots = state.slotsOf(other);
                    take(roomTaken, progress.room, slots);
                    take(officerTaken, progress.officer, slots);
                    witnessTaken |= (needs & setup.matters[other].needs) != 0 ? slots : 0;
                }
            }
        }

        private static void take(int[] taken, int index, int slots) {
            if (index >= 0 && index < taken.length) {
                taken[index] |= slots;
            }
        }
    }

    /** Looks for the fewest officers who could hear all cases, by giving officers to cases on trial. */
    private static final class Bench {
        // Above the rank of any case.
        private static final int NO_RANK = (MOST_OFFICERS + 2) * MOST_CASES;

        private final int[] conflicts = new int[MOST_CASES];
        private final int[] permittedCases = new int[MOST_OFFICERS];
        // Row after row, the officers left for each case when so many cases have one.
        private final int[] choices = new int[(MOST_CASES + 1) * MOST_CASES];
        private int cases;
        private int officers;

        int countFewest(State state) {
            prepare(state);
            for (int most = 0; most <= officers; most++) {
                if (gives(this, 0, allOf(cases), 0, most)) {
                    return most;
                }
            }
            return NONE;
        }

        private void prepare(State state) {
            cases = state.setup.size(CASE);
            officers = state.setup.size(OFFICER);
            Arrays.fill(permittedCases, 0);
            for (int number = 0; number < cases; number++) {
                conflicts[number] = state.setup.matters[number].conflicts;
                choices[number] = allOf(officers) & ~state.bars[number];
                for (int officer = 0; officer < officers; officer++) {
                    permittedCases[officer] |= has(choices[number], officer) ? 1 << number : 0;
                }
            }
        }

        /** Tells whether the cases left can be given to officers, of whom at most so many are used in all. */
        private static boolean gives(Bench bench, int done, int left, int used, int most) {
            if (left == 0) {
                return true;
            }
            if (done >= MOST_CASES) {
                return false;
            }
            int usable = Integer.bitCount(used) < most ? allOf(bench.officers) : used;
            int number = bench.hardest(done, left, usable);
            int open = bench.choices[done * MOST_CASES + number] & usable;
            for (int officer = 0; officer < bench.officers; officer++) {
                if (has(open, officer) && !bench.isSpare(officer, left, used)) {
                    bench.giveTo(done, number, officer);
                    if (gives(bench, done + 1, left & ~(1 << number), used | 1 << officer, most)) {
                        return true;
                    }
                }
            }
            return false;
        }

        /** The case with the fewest choices, on a tie with the most conflicts: what cannot be shows early. */
        private int hardest(int done, int left, int usable) {
            int hardest = 0;
            int leastRank = NO_RANK;
            for (int number = 0; number < cases; number++) {
                if (has(left, number)) {
                    int open = Integer.bitCount(choices[done * MOST_CASES + number] & usable);
                    int rank = (open + 1) * MOST_CASES - Integer.bitCount(conflicts[number] & left);
                    if (rank < leastRank) {
                        hardest = number;
                        leastRank = rank;
                    }
                }
            }
            return hardest;
        }

        /** An unused officer need not be tried if a smaller unused one is permitted the same of the cases left. */
        private boolean isSpare(int officer, int left, int used) {
            for (int smaller = 0; smaller < officer && !has(used, officer); smaller++) {
                int differing = (permittedCases[smaller] ^ permittedCases[officer]) & left;
                if (!has(used, smaller) && differing == 0) {
                    return true;
                }
            }
            return false;
        }

        private void giveTo(int done, int number, int officer) {
            int row = done * MOST_CASES;
            for (int other = 0; other < cases; other++) {
                int lost = has(conflicts[number], other) ? 1 << officer : 0;
                choices[row + MOST_CASES + other] = choices[row + other] & ~lost;
            }
        }
    }
}
