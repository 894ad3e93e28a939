import java.nio.charset.StandardCharsets;
import java.util.ArrayDeque;
import java.util.ArrayList;
import java.util.Arrays;
import java.util.Comparator;
import java.util.HashSet;
import java.util.List;
import java.util.NoSuchElementException;
import java.util.Set;
import java.util.TreeMap;

/** The document word by word, as slow and simple as can be: what the program is compared with. */
final class Reference {
    private static final Set<String> QUOTED = Set.of("holiday", "room", "slots", "officer", "off", "witness", "days", "case",
            "filed", "limit", "custody", "needs", "bar", "conflict", "lengthen", "cap");

    private static final class Fault extends RuntimeException {
        private static final long serialVersionUID = 1;
        final int code;
        final int offset;

        Fault(int code, int offset) {
            this.code = code;
            this.offset = offset;
        }
    }

    private record Token(int start, String text) {
    }

    private record Span(int first, int last) {
        boolean has(int x) {
            return first <= x && x <= last;
        }
    }

    private record Hearing(int day, int slot, int room, int officer) {
    }

    private static final class Case {
        int filed;
        int slots;
        int limit;
        boolean custody;
        Set<Integer> needs = new HashSet<>();
        Set<Integer> conflicts = new HashSet<>();
        int state = 0;
        int lengthening = 0;
        Hearing hearing = null;
        List<int[]> adjournments = new ArrayList<>();

        Case copy() {
            Case c = new Case();
            c.filed = filed;
            c.slots = slots;
            c.limit = limit;
            c.custody = custody;
            c.needs = needs;
            c.conflicts = conflicts;
            c.state = state;
            c.lengthening = lengthening;
            c.hearing = hearing;
            c.adjournments.addAll(adjournments);
            return c;
        }

        boolean takes(int slot) {
            return hearing.slot <= slot && slot < hearing.slot + slots;
        }
    }

    private static final class World {
        List<List<String>> names = List.of(new ArrayList<>(), new ArrayList<>(), new ArrayList<>(), new ArrayList<>());
        List<Span> rooms = new ArrayList<>();
        List<List<Span>> offs = new ArrayList<>();
        List<Span> windows = new ArrayList<>();
        List<Span> windowSlots = new ArrayList<>();
        List<Case> cases = new ArrayList<>();
        Set<Integer> holidays = new HashSet<>();
        Set<List<Integer>> bars = new HashSet<>();
        int conflicts = 0;
        TreeMap<Integer, Integer> reasons = new TreeMap<>();
        Integer cap = null;
        int day = 0;

        World copy() {
            World w = new World();
            w.names = names;
            w.rooms = rooms;
            w.offs = offs;
            w.windows = new ArrayList<>(windows);
            w.windowSlots = windowSlots;
            for (Case c : cases) {
                w.cases.add(c.copy());
            }
            w.holidays = new HashSet<>(holidays);
            w.bars = new HashSet<>(bars);
            w.conflicts = conflicts;
            w.reasons = reasons;
            w.cap = cap;
            w.day = day;
            return w;
        }
    }

    private byte[] buffer = new byte[0];
    private World world = new World();
    private World saved = null;
    private ArrayDeque<World> undos = new ArrayDeque<>();
    private int code = 0;
    private int offset = -1;
    private String output = "";

    int feed(int... five) {
        if (buffer.length + 20 > 900) {
            return -1;
        }
        byte[] more = Arrays.copyOf(buffer, buffer.length + 20);
        for (int i = 0; i < 20; i++) {
            more[buffer.length + i] = (byte) (five[i / 4] >> 24 - 8 * (i % 4));
        }
        buffer = more;
        return buffer.length;
    }

    boolean truncate(int length) {
        if (length < 0 || length > buffer.length) {
            return false;
        }
        buffer = Arrays.copyOf(buffer, length);
        return true;
    }

    // ---- the text

    private List<Token> tokens;
    private int at;
    private int textLength;

    private void tokenize(String text) {
        tokens = new ArrayList<>();
        at = 0;
        textLength = text.length();
        java.util.regex.Matcher m = java.util.regex.Pattern.compile("[a-z]+|[0-9]+|[^ \n]", java.util.regex.Pattern.DOTALL).matcher(text);
        while (m.find()) {
            tokens.add(new Token(m.start(), m.group()));
        }
    }

    private Token peek() {
        return at < tokens.size() ? tokens.get(at) : new Token(textLength, "");
    }

    private int number(int least, int most) {
        Token t = peek();
        if (!t.text.matches("[0-9]{1,3}")) {
            throw new Fault(1, t.start);
        }
        int value = Integer.parseInt(t.text);
        if (value < least || value > most) {
            throw new Fault(2, t.start);
        }
        at++;
        return value;
    }

    private Span span(int most) {
        int first = number(0, most);
        return new Span(first, number(first, most));
    }

    private void word(String word) {
        if (!peek().text.equals(word)) {
            throw new Fault(1, peek().start);
        }
        at++;
    }

    private String name() {
        Token t = peek();
        if (!t.text.matches("[a-z]{1,8}") || QUOTED.contains(t.text)) {
            throw new Fault(1, t.start);
        }
        at++;
        return t.text;
    }

    private void newName(List<String> names) {
        int start = peek().start;
        String name = name();
        if (names.contains(name)) {
            throw new Fault(3, start);
        }
        names.add(name);
    }

    private int told(List<String> names) {
        int start = peek().start;
        String name = name();
        if (!names.contains(name)) {
            throw new Fault(3, start);
        }
        return names.indexOf(name);
    }

    private void most(int size, int limit, int start) {
        if (size >= limit) {
            throw new Fault(4, start);
        }
    }

    private void wrongIf(boolean wrong, int start) {
        if (wrong) {
            throw new Fault(3, start);
        }
    }

    private void statement(World w) {
        Token first = peek();
        at++;
        int start;
        switch (first.text) {
            case "holiday" -> {
                most(w.holidays.size(), 20, first.start);
                start = peek().start;
                wrongIf(!w.holidays.add(number(0, 599)), start);
            }
            case "room" -> {
                most(w.rooms.size(), 3, first.start);
                newName(w.names.get(0));
                word("slots");
                w.rooms.add(span(7));
            }
            case "officer" -> {
                most(w.offs.size(), 6, first.start);
                newName(w.names.get(1));
                List<Span> offs = new ArrayList<>();
                while (peek().text.equals("off")) {
                    most(offs.size(), 3, peek().start);
                    at++;
                    offs.add(span(599));
                }
                w.offs.add(offs);
            }
            case "witness" -> {
                most(w.windows.size(), 12, first.start);
                newName(w.names.get(2));
                word("days");
                w.windows.add(span(599));
                Span slots = new Span(0, 7);
                if (peek().text.equals("slots")) {
                    at++;
                    slots = span(7);
                }
                w.windowSlots.add(slots);
            }
            case "case" -> {
                most(w.cases.size(), 12, first.start);
                newName(w.names.get(3));
                matter(w);
            }
            case "bar" -> {
                int officer = told(w.names.get(1));
                start = peek().start;
                wrongIf(!w.bars.add(List.of(officer, told(w.names.get(3)))), start);
            }
            case "conflict" -> {
                int one = told(w.names.get(3));
                start = peek().start;
                int two = told(w.names.get(3));
                wrongIf(one == two || !w.cases.get(one).conflicts.add(two), start);
                w.cases.get(two).conflicts.add(one);
                w.conflicts++;
            }
            case "lengthen" -> {
                start = peek().start;
                int reason = number(0, 3);
                wrongIf(w.reasons.containsKey(reason), start);
                w.reasons.put(reason, number(0, 30));
            }
            case "cap" -> {
                wrongIf(w.cap != null, first.start);
                w.cap = number(0, 60);
            }
            default -> throw new Fault(1, first.start);
        }
        word(";");
    }

    private void matter(World w) {
        Case c = new Case();
        word("filed");
        c.filed = number(0, 99);
        word("slots");
        c.slots = number(1, 4);
        word("limit");
        c.limit = number(1, 60);
        if (peek().text.equals("custody")) {
            c.custody = true;
            at++;
        }
        while (peek().text.equals("needs")) {
            most(c.needs.size(), 4, peek().start);
            at++;
            int start = peek().start;
            wrongIf(!c.needs.add(told(w.names.get(2))), start);
        }
        w.cases.add(c);
    }

    int parse() {
        tokenize(new String(buffer, StandardCharsets.ISO_8859_1));
        buffer = new byte[0];
        World w = new World();
        code = 0;
        offset = -1;
        try {
            while (at < tokens.size()) {
                statement(w);
            }
        } catch (Fault fault) {
            code = fault.code;
            offset = fault.offset;
            return -1;
        }
        world = w;
        saved = null;
        undos.clear();
        return w.cases.size();
    }

    int errorCode() {
        return code;
    }

    int errorOffset() {
        return offset;
    }

    // ---- reading

    private int inState(int state) {
        int all = 0;
        for (Case c : world.cases) {
            all += c.state == state ? 1 : 0;
        }
        return all;
    }

    private int cap() {
        return world.cap == null ? 15 : world.cap;
    }

    int count(int what) {
        int[] all = {world.rooms.size(), world.offs.size(), world.windows.size(), world.cases.size(), world.holidays.size(),
            world.bars.size(), world.conflicts, world.day, cap(), undos.size(), inState(0), inState(1), inState(2), inState(3)};
        return what < 0 || what >= all.length ? -1 : all[what];
    }

    int find(int kind) {
        argument(kind >= 0 && kind < 4);
        String name = new String(buffer, StandardCharsets.ISO_8859_1);
        buffer = new byte[0];
        return world.names.get(kind).indexOf(name);
    }

    private static void argument(boolean fine) {
        if (!fine) {
            throw new IllegalArgumentException();
        }
    }

    private static void index(boolean fine) {
        if (!fine) {
            throw new IndexOutOfBoundsException();
        }
    }

    private static void state(boolean fine) {
        if (!fine) {
            throw new IllegalStateException();
        }
    }

    private static void day(int day) {
        argument(day >= 0 && day <= 599);
    }

    private void officer(int officer) {
        index(officer >= 0 && officer < world.offs.size());
    }

    private void room(int room) {
        index(room >= 0 && room < world.rooms.size());
    }

    private Case get(int number) {
        index(number >= 0 && number < world.cases.size());
        return world.cases.get(number);
    }

    private boolean works(int day) {
        return day % 7 <= 4 && !world.holidays.contains(day);
    }

    boolean isWorkingDay(int day) {
        day(day);
        return works(day);
    }

    private int worked(int from, int to) {
        int all = 0;
        for (int d = from; d <= to; d++) {
            all += works(d) ? 1 : 0;
        }
        return all;
    }

    int workingDays(int from, int to) {
        argument(from >= 0 && from <= to && to <= 599);
        return worked(from, to);
    }

    int lengthening(int reason) {
        argument(reason >= 0 && reason <= 3);
        return world.reasons.getOrDefault(reason, new int[] {10, 5, 0, 0}[reason]);
    }

    int witness(int witness, int what) {
        index(witness >= 0 && witness < world.windows.size() && what >= 0 && what <= 4);
        int planned = 0;
        for (Case c : world.cases) {
            planned += c.state == 1 && c.needs.contains(witness) ? 1 : 0;
        }
        Span days = world.windows.get(witness);
        Span slots = world.windowSlots.get(witness);
        return new int[] {days.first, days.last, slots.first, slots.last, planned}[what];
    }

    boolean isOff(int officer, int day) {
        officer(officer);
        day(day);
        return off(officer, day);
    }

    private boolean off(int officer, int day) {
        return officer == absent || world.offs.get(officer).stream().anyMatch(s -> s.has(day));
    }

    boolean isBarred(int officer, int number) {
        officer(officer);
        Case c = get(number);
        if (world.bars.contains(List.of(officer, number))) {
            return true;
        }
        for (int other : c.conflicts) {
            Hearing h = world.cases.get(other).hearing;
            if (h != null && h.officer == officer) {
                return true;
            }
        }
        return false;
    }

    int load(int officer) {
        officer(officer);
        return world.cases.stream().filter(c -> c.hearing != null && c.hearing.officer == officer).mapToInt(c -> c.slots).sum();
    }

    private int limitDay(Case c) {
        int day = c.filed;
        for (int left = c.limit + c.lengthening; left > 0;) {
            day++;
            left -= works(day) ? 1 : 0;
        }
        return day;
    }

    int matter(int number, int what) {
        Case c = get(number);
        index(what >= 0 && what <= 9);
        return new int[] {c.filed, c.slots, c.limit, c.lengthening, limitDay(c), c.state, c.custody ? 1 : 0,
            c.adjournments.size(), c.needs.size(), c.conflicts.size()}[what];
    }

    int hearing(int number, int what) {
        Hearing h = get(number).hearing;
        index(what >= 0 && what <= 3);
        return h == null ? -1 : new int[] {h.day, h.slot, h.room, h.officer}[what];
    }

    int adjournment(int number, int index, int what) {
        Case c = get(number);
        index(index >= 0 && index < c.adjournments.size() && what >= 0 && what <= 3);
        return c.adjournments.get(index)[what];
    }

    int caseAt(int room, int day, int slot) {
        room(room);
        day(day);
        argument(slot >= 0 && slot <= 7);
        for (int number = 0; number < world.cases.size(); number++) {
            Case c = world.cases.get(number);
            if (c.hearing != null && c.hearing.room == room && c.hearing.day == day && c.takes(slot)) {
                return number;
            }
        }
        return -1;
    }

    // ---- problems and openings

    private int absent = -1;

    private boolean free(int number, int day, int slot, int kind, int which) {
        Case c = world.cases.get(number);
        for (int other = 0; other < world.cases.size(); other++) {
            Case o = world.cases.get(other);
            if (other == number || o.hearing == null || o.hearing.day != day) {
                continue;
            }
            boolean concerned = kind == 0 ? o.hearing.room == which : kind == 1 ? o.hearing.officer == which
                    : o.needs.contains(which);
            for (int s = slot; s < slot + c.slots; s++) {
                if (concerned && o.takes(s)) {
                    return false;
                }
            }
        }
        return true;
    }

    private int judge(int number, int day, int slot, int room, int officer) {
        Case c = world.cases.get(number);
        int last = slot + c.slots - 1;
        if (day < world.day || day < c.filed || !works(day)) {
            return 1;
        }
        if (day > limitDay(c)) {
            return 2;
        }
        if (!world.rooms.get(room).has(slot) || !world.rooms.get(room).has(last)) {
            return 3;
        }
        if (!free(number, day, slot, 0, room)) {
            return 4;
        }
        if (off(officer, day)) {
            return 5;
        }
        if (!free(number, day, slot, 1, officer)) {
            return 6;
        }
        if (isBarred(officer, number)) {
            return 7;
        }
        for (int w : c.needs) {
            if (!world.windows.get(w).has(day) || !world.windowSlots.get(w).has(slot) || !world.windowSlots.get(w).has(last)) {
                return 8;
            }
        }
        for (int w : c.needs) {
            if (!free(number, day, slot, 2, w)) {
                return 9;
            }
        }
        return 0;
    }

    private Case unfinished(int number) {
        Case c = get(number);
        state(c.state == 0 || c.state == 1);
        return c;
    }

    private void arguments(int number, int day, int slot, int room, int officer) {
        get(number);
        room(room);
        officer(officer);
        day(day);
        argument(slot >= 0 && slot <= 7);
    }

    int problem(int number, int day, int slot, int room, int officer) {
        arguments(number, day, slot, room, officer);
        unfinished(number);
        return judge(number, day, slot, room, officer);
    }

    private Hearing first(int number, int from, int to) {
        for (int day = from; day <= to; day++) {
            for (int slot = 0; slot <= 7 && works(day); slot++) {
                for (int room = 0; room < world.rooms.size(); room++) {
                    Hearing best = null;
                    for (int officer = 0; officer < world.offs.size(); officer++) {
                        if (judge(number, day, slot, room, officer) == 0
                                && (best == null || load(officer) < load(best.officer))) {
                            best = new Hearing(day, slot, room, officer);
                        }
                    }
                    if (best != null) {
                        return best;
                    }
                }
            }
        }
        return null;
    }

    private Hearing first(int number) {
        return first(number, world.day, Math.min(599, limitDay(world.cases.get(number))));
    }

    int opening(int number, int what) {
        get(number);
        index(what >= 0 && what <= 3);
        unfinished(number);
        Hearing h = first(number);
        return h == null ? -1 : new int[] {h.day, h.slot, h.room, h.officer}[what];
    }

    int openDays(int number) {
        unfinished(number);
        int all = 0;
        for (int day = 0; day < 600; day++) {
            all += first(number, day, day) != null ? 1 : 0;
        }
        return all;
    }

    private List<Integer> urgency() {
        List<Integer> row = new ArrayList<>();
        for (int number = 0; number < world.cases.size(); number++) {
            if (world.cases.get(number).state == 0) {
                row.add(number);
            }
        }
        row.sort(Comparator.comparingInt((Integer n) -> limitDay(world.cases.get(n)))
                .thenComparing(n -> world.cases.get(n).custody ? 0 : 1).thenComparing(n -> n));
        return row;
    }

    int urgent(int index) {
        List<Integer> row = urgency();
        if (index < 0 || index >= row.size()) {
            throw new NoSuchElementException();
        }
        return row.get(index);
    }

    int slack(int number) {
        return worked(world.day, limitDay(get(number)));
    }

    int eligible(int number) {
        get(number);
        int all = 0;
        for (int officer = 0; officer < world.offs.size(); officer++) {
            all |= isBarred(officer, number) ? 0 : 1 << officer;
        }
        return all;
    }

    int fewestOfficers() {
        return fewest(0, new int[world.cases.size()]);
    }

    private int fewest(int number, int[] given) {
        if (number == given.length) {
            return (int) Arrays.stream(given).distinct().count();
        }
        int best = -1;
        for (int officer = 0; officer < world.offs.size(); officer++) {
            boolean fine = !world.bars.contains(List.of(officer, number));
            for (int other : world.cases.get(number).conflicts) {
                fine &= other > number || given[other] != officer;
            }
            if (fine) {
                given[number] = officer;
                int found = fewest(number + 1, given);
                best = best == -1 ? found : found == -1 ? best : Math.min(best, found);
            }
        }
        return best;
    }

    double meanSlack() {
        List<Integer> row = urgency();
        double sum = 0;
        for (int number : row) {
            sum += slack(number);
        }
        return row.isEmpty() ? 0 : sum / row.size();
    }

    float usage(int room, int from, int to) {
        room(room);
        argument(from >= 0 && from <= to && to <= 599);
        int all = 0;
        int taken = 0;
        for (int day = from; day <= to; day++) {
            for (int slot = world.rooms.get(room).first; slot <= world.rooms.get(room).last && works(day); slot++) {
                all++;
                taken += caseAt(room, day, slot) == -1 ? 0 : 1;
            }
        }
        return all == 0 ? 0 : (float) taken / (float) all;
    }

    // ---- changes

    private void change() {
        undos.addLast(world.copy());
        if (undos.size() > 8) {
            undos.removeFirst();
        }
    }

    private int passOne() {
        int heard = 0;
        for (Case c : world.cases) {
            if (c.state == 1 && c.hearing.day == world.day) {
                c.state = 2;
                heard++;
            }
        }
        world.day++;
        for (Case c : world.cases) {
            if (c.state == 0 && limitDay(c) < world.day) {
                c.state = 3;
            }
        }
        return heard;
    }

    int pass(int days) {
        argument(days >= 1 && days <= 99 && world.day + days <= 599);
        change();
        int heard = 0;
        for (int i = 0; i < days; i++) {
            heard += passOne();
        }
        return heard;
    }

    int plan(int number, int day, int slot, int room, int officer) {
        state(problem(number, day, slot, room, officer) == 0);
        change();
        Case c = get(number);
        c.state = 1;
        c.hearing = new Hearing(day, slot, room, officer);
        return worked(day + 1, limitDay(c));
    }

    int planNext(int number) {
        state(get(number).state == 0);
        Hearing h = first(number);
        if (h == null) {
            throw new NoSuchElementException();
        }
        change();
        get(number).state = 1;
        get(number).hearing = h;
        return h.day;
    }

    private int planWaiting() {
        int planned = 0;
        for (int number : urgency()) {
            Hearing h = first(number);
            if (h != null) {
                planned++;
                get(number).state = 1;
                get(number).hearing = h;
            }
        }
        return planned;
    }

    int planAll() {
        change();
        return planWaiting();
    }

    private void take(Case c, int reason) {
        if (c.adjournments.size() < 5) {
            int before = c.lengthening;
            c.lengthening += lengthening(reason);
            if (c.custody && c.lengthening > cap()) {
                c.lengthening = cap();
            }
            c.adjournments.add(new int[] {world.day, reason, c.hearing.day, c.lengthening - before});
        }
        c.state = 0;
        c.hearing = null;
    }

    int adjourn(int number, int reason) {
        get(number);
        argument(reason >= 0 && reason <= 3);
        state(get(number).state == 1 && get(number).adjournments.size() < 5);
        change();
        take(get(number), reason);
        return limitDay(get(number));
    }

    int withdraw(int witness, int day) {
        index(witness >= 0 && witness < world.windows.size());
        argument(day >= world.day && day <= 599);
        change();
        Span old = world.windows.get(witness);
        if (day - 1 < old.last) {
            world.windows.set(witness, new Span(old.first, day - 1));
        }
        int taken = 0;
        for (Case c : world.cases) {
            if (c.state == 1 && c.hearing.day >= day && c.needs.contains(witness)) {
                take(c, 0);
                taken++;
            }
        }
        return taken;
    }

    int addHoliday(int day) {
        argument(day >= world.day && day <= 599);
        state(works(day) && world.holidays.size() < 20);
        change();
        world.holidays.add(day);
        int taken = 0;
        for (Case c : world.cases) {
            if (c.state == 1 && c.hearing.day == day) {
                take(c, 3);
                taken++;
            }
        }
        return taken;
    }

    boolean addBar(int officer, int number) {
        officer(officer);
        get(number);
        state(!world.bars.contains(List.of(officer, number)));
        change();
        world.bars.add(List.of(officer, number));
        Case c = get(number);
        if (c.state == 1 && c.hearing.officer == officer) {
            take(c, 1);
            return true;
        }
        return false;
    }

    int undo() {
        state(!undos.isEmpty());
        world = undos.removeLast();
        return undos.size();
    }

    int lapsesIn(int days) {
        argument(days >= 1 && days <= 99 && world.day + days <= 599);
        World kept = world;
        int before = inState(3);
        world = world.copy();
        for (int i = 0; i < days; i++) {
            passOne();
        }
        int lapsed = inState(3) - before;
        world = kept;
        return lapsed;
    }

    private int plannableWithout(int officer) {
        World kept = world;
        world = world.copy();
        absent = officer;
        int planned = planWaiting();
        absent = -1;
        world = kept;
        return planned;
    }

    int plannable() {
        return plannableWithout(-1);
    }

    int keyOfficer() {
        int least = plannable();
        int key = -1;
        for (int officer = 0; officer < world.offs.size(); officer++) {
            int planned = plannableWithout(officer);
            if (planned < least) {
                least = planned;
                key = officer;
            }
        }
        return key;
    }

    int printDay(int day) {
        day(day);
        StringBuilder all = new StringBuilder();
        for (int slot = 0; slot < 8; slot++) {
            for (int room = 0; room < world.rooms.size(); room++) {
                for (int number = 0; number < world.cases.size(); number++) {
                    Hearing h = world.cases.get(number).hearing;
                    if (h != null && h.day == day && h.slot == slot && h.room == room) {
                        all.append(slot).append(' ').append(world.names.get(0).get(room)).append(' ')
                            .append(world.names.get(3).get(number)).append(' ').append(world.names.get(1).get(h.officer)).append('\n');
                    }
                }
            }
        }
        output = all.toString();
        return output.length();
    }

    int outputByte(int index) {
        return index < 0 || index >= output.length() ? -1 : output.charAt(index);
    }

    int saveState() {
        saved = world.copy();
        return world.day;
    }

    int restoreState() {
        state(saved != null);
        world = saved.copy();
        undos.clear();
        return world.day;
    }
}
