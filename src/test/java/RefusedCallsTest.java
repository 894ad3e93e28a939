import java.util.NoSuchElementException;

/**
 * Of every parameter of every method the last value that is taken and the first one that is refused, at each end; every
 * other reason for an exception; and that what throws, and what only reads, changes nothing.
 */
public final class RefusedCallsTest {
    private static final Class<?> NO_INDEX = IndexOutOfBoundsException.class;
    private static final Class<?> NO_ARGUMENT = IllegalArgumentException.class;
    private static final Class<?> NO_STATE = IllegalStateException.class;
    private static final Class<?> NO_ELEMENT = NoSuchElementException.class;

    private static final int WAITING = 0;
    private static final int PLANNED = 1;
    private static final int HEARD = 2;
    private static final int LAPSED = 3;
    private static final int ADJOURNED_FIVE_TIMES = 4;
    private static final int WITHOUT_OPENING = 5;

    public static void main(String[] args) {
        Check.Maker[] makers = {CourtCalendar::new, RefusedCallsTest::single, RefusedCallsTest::full};
        int[][] sizes = {{0, 0, 0, 0}, {1, 1, 1, 1}, {3, 6, 12, 12}};
        for (int i = 0; i < makers.length; i++) {
            rooms(makers[i], sizes[i][0]);
            officers(makers[i], sizes[i][1]);
            witnesses(makers[i], sizes[i][2]);
            cases(makers[i], sizes[i][3]);
            days(makers[i]);
        }
        propertiesAndSlots();
        adjournments();
        spans();
        daysToPass();
        daysToCome();
        urgentIndexes();
        finishedCases();
        plansWithAProblem();
        planNextOfEachState();
        adjournOfEachState();
        holidaysRefused();
        barsRefused();
        nothingToUndo();
        nothingSaved();
        indexBeforeArgument();
        indexBeforeState();
        argumentBeforeState();
        readingChangesNothing();
        Check.end("RefusedCallsTest");
    }

    /** One of each kind, the case planned and adjourned before. */
    private static CourtCalendar single() {
        CourtCalendar court = Check.court("room r slots 0 7;officer o;witness w days 0 599;case c filed 0 slots 1 limit 9 needs w;");
        court.plan(0, 0, 3, 0, 0);
        court.adjourn(0, 1);
        court.plan(0, 0, 3, 0, 0);
        return Check.laden(court);
    }

    /** As many of each kind as there may be, all cases planned, the first and the last one adjourned before. */
    private static CourtCalendar full() {
        CourtCalendar court = Check.court(Check.many("room # slots 0 7;", 3) + Check.many("officer #;", 6)
            + Check.many("witness # days 0 599;", 12) + Check.many("case # filed 0 slots 1 limit 9;", 12));
        court.planAll();
        for (int number = 0; number < 12; number += 11) {
            court.adjourn(number, 0);
            court.planNext(number);
        }
        court.withdraw(3, 500);
        court.addBar(5, 4);
        court.addHoliday(8);
        court.addHoliday(9);
        court.addHoliday(10);
        return Check.laden(court);
    }

    /** Six cases, named by the constants; the present day is 2. */
    private static CourtCalendar various() {
        CourtCalendar court = Check.court("holiday 9;room r slots 1 6;officer o off 4 4;officer p;witness w days 3 20 slots 2 5;"
            + "case a filed 3 slots 2 limit 9 needs w;case b filed 0 slots 1 limit 9;case c filed 0 slots 1 limit 9;"
            + "case d filed 0 slots 1 limit 1;case e filed 0 slots 1 limit 9;case f filed 0 slots 1 limit 9 needs w;"
            + "bar o f;bar p f;bar p a;conflict c b;");
        court.plan(HEARD, 1, 1, 0, 1);
        for (int times = 0; times < 5; times++) {
            court.planNext(ADJOURNED_FIVE_TIMES);
            court.adjourn(ADJOURNED_FIVE_TIMES, 2);
        }
        court.plan(ADJOURNED_FIVE_TIMES, 3, 1, 0, 1);
        court.pass(2);
        court.plan(PLANNED, 3, 3, 0, 0);
        court.addHoliday(8);
        return Check.laden(court);
    }

    // ---- what is numbered

    private static void rooms(Check.Maker maker, int rooms) {
        Check.edges("caseAt, room", NO_INDEX, maker, 0, rooms - 1, (court, room) -> court.caseAt(room, 0, 0));
        Check.edges("usage, room", NO_INDEX, maker, 0, rooms - 1, (court, room) -> court.usage(room, 0, 0));
        Check.edges("problem, room", NO_INDEX, maker, 0, rooms - 1, (court, room) -> court.problem(0, 0, 0, room, 0));
        Check.edges("plan, room", NO_INDEX, maker, 0, rooms - 1, (court, room) -> court.plan(0, 4, 0, room, 0));
    }

    private static void officers(Check.Maker maker, int officers) {
        Check.edges("isOff, officer", NO_INDEX, maker, 0, officers - 1, (court, officer) -> court.isOff(officer, 0));
        Check.edges("isBarred, officer", NO_INDEX, maker, 0, officers - 1, (court, officer) -> court.isBarred(officer, 0));
        Check.edges("load", NO_INDEX, maker, 0, officers - 1, CourtCalendar::load);
        Check.edges("problem, officer", NO_INDEX, maker, 0, officers - 1, (court, officer) -> court.problem(0, 0, 0, 0, officer));
        Check.edges("plan, officer", NO_INDEX, maker, 0, officers - 1, (court, officer) -> court.plan(0, 4, 0, 0, officer));
        Check.edges("addBar, officer", NO_INDEX, maker, 0, officers - 1, (court, officer) -> court.addBar(officer, 0));
    }

    private static void witnesses(Check.Maker maker, int witnesses) {
        for (int what = 0; what < 5; what++) {
            int property = what;
            Check.edges("witness", NO_INDEX, maker, 0, witnesses - 1, (court, witness) -> court.witness(witness, property));
        }
        Check.edges("withdraw, witness", NO_INDEX, maker, 0, witnesses - 1, (court, witness) -> court.withdraw(witness, 0));
    }

    private static void cases(Check.Maker maker, int cases) {
        Check.edges("isBarred, case", NO_INDEX, maker, 0, cases - 1, (court, number) -> court.isBarred(0, number));
        for (int what = 0; what < 10; what++) {
            int property = what;
            Check.edges("matter", NO_INDEX, maker, 0, cases - 1, (court, number) -> court.matter(number, property));
        }
        for (int what = 0; what < 4; what++) {
            int property = what;
            Check.edges("hearing", NO_INDEX, maker, 0, cases - 1, (court, number) -> court.hearing(number, property));
            Check.edges("adjournment", NO_INDEX, maker, 0, cases - 1, (court, number) -> court.adjournment(number, 0, property));
            Check.edges("opening", NO_INDEX, maker, 0, cases - 1, (court, number) -> court.opening(number, property));
        }
        Check.edges("problem, case", NO_INDEX, maker, 0, cases - 1, (court, number) -> court.problem(number, 0, 0, 0, 0));
        Check.edges("openDays", NO_INDEX, maker, 0, cases - 1, CourtCalendar::openDays);
        Check.edges("slack", NO_INDEX, maker, 0, cases - 1, CourtCalendar::slack);
        Check.edges("eligible", NO_INDEX, maker, 0, cases - 1, CourtCalendar::eligible);
        Check.edges("plan, case", NO_INDEX, maker, 0, cases - 1, (court, number) -> court.plan(number, 4, 0, 0, 0));
        Check.edges("adjourn, case", NO_INDEX, maker, 0, cases - 1, (court, number) -> court.adjourn(number, 0));
        Check.edges("addBar, case", NO_INDEX, maker, 0, cases - 1, (court, number) -> court.addBar(0, number));
        Check.edges("planNext", NO_INDEX, () -> allWaiting(maker), 0, cases - 1, CourtCalendar::planNext);
    }

    private static CourtCalendar allWaiting(Check.Maker maker) {
        CourtCalendar court = maker.make();
        for (int number = 0; number < court.count(3); number++) {
            court.adjourn(number, 0);
        }
        return court;
    }

    private static void days(Check.Maker maker) {
        Check.edges("isWorkingDay", NO_ARGUMENT, maker, 0, 599, CourtCalendar::isWorkingDay);
        Check.edges("printDay", NO_ARGUMENT, maker, 0, 599, CourtCalendar::printDay);
        Check.edges("lengthening", NO_ARGUMENT, maker, 0, 3, CourtCalendar::lengthening);
        Check.edges("workingDays, from", NO_ARGUMENT, maker, 0, 300, (court, from) -> court.workingDays(from, 300));
        Check.edges("workingDays, to", NO_ARGUMENT, maker, 300, 599, (court, to) -> court.workingDays(300, to));
        Check.edges("workingDays, one day", NO_ARGUMENT, maker, 0, 599, (court, day) -> court.workingDays(day, day));
        Check.edges("addHoliday", NO_ARGUMENT, maker, 0, 599, CourtCalendar::addHoliday);
        Check.edges("pass", NO_ARGUMENT, maker, 1, 99, CourtCalendar::pass);
        Check.edges("lapsesIn", NO_ARGUMENT, maker, 1, 99, CourtCalendar::lapsesIn);
    }

    // ---- properties, slots and days of what is there

    private static void propertiesAndSlots() {
        for (Check.Maker maker : new Check.Maker[] {RefusedCallsTest::single, RefusedCallsTest::full}) {
            Check.edges("witness, what", NO_INDEX, maker, 0, 4, (court, what) -> court.witness(0, what));
            Check.edges("matter, what", NO_INDEX, maker, 0, 9, (court, what) -> court.matter(0, what));
            Check.edges("hearing, what", NO_INDEX, maker, 0, 3, (court, what) -> court.hearing(0, what));
            Check.edges("hearing, what, none there", NO_INDEX, () -> allWaiting(maker), 0, 3, (court, what) -> court.hearing(0, what));
            Check.edges("opening, what", NO_INDEX, maker, 0, 3, (court, what) -> court.opening(0, what));
            Check.edges("isOff, day", NO_ARGUMENT, maker, 0, 599, (court, day) -> court.isOff(0, day));
            Check.edges("caseAt, day", NO_ARGUMENT, maker, 0, 599, (court, day) -> court.caseAt(0, day, 0));
            Check.edges("caseAt, slot", NO_ARGUMENT, maker, 0, 7, (court, slot) -> court.caseAt(0, 0, slot));
            Check.edges("problem, day", NO_ARGUMENT, maker, 0, 599, (court, day) -> court.problem(0, day, 0, 0, 0));
            Check.edges("problem, slot", NO_ARGUMENT, maker, 0, 7, (court, slot) -> court.problem(0, 0, slot, 0, 0));
            Check.edges("plan, slot", NO_ARGUMENT, maker, 0, 7, (court, slot) -> court.plan(0, 4, slot, 0, 0));
            Check.same("plan, the first day", Check.outcome(() -> maker.make().plan(0, 0, 7, 0, 0)) instanceof Integer, true);
            Check.refused("plan, the last day, which has a problem", NO_STATE, maker, (court, day) -> court.plan(0, day, 0, 0, 0), 599);
            for (int wrong : new int[] {-1, 600, Integer.MIN_VALUE, Integer.MAX_VALUE}) {
                Check.refused("plan, day", NO_ARGUMENT, maker, (court, day) -> court.plan(0, day, 0, 0, 0), wrong);
            }
            Check.edges("adjourn, reason", NO_ARGUMENT, maker, 0, 3, (court, reason) -> court.adjourn(0, reason));
            Check.edges("withdraw, day", NO_ARGUMENT, maker, 0, 599, (court, day) -> court.withdraw(0, day));
        }
    }

    private static CourtCalendar adjourned(int times) {
        CourtCalendar court = Check.court("room r slots 0 7;officer o;case c filed 0 slots 1 limit 9;case d filed 0 slots 1 limit 9;");
        for (int i = 0; i < times; i++) {
            court.planNext(1);
            court.adjourn(1, i % 4);
        }
        return Check.laden(court);
    }

    private static void adjournments() {
        for (int times = 0; times <= 5; times++) {
            int so = times;
            for (int what = 0; what < 4; what++) {
                int property = what;
                Check.edges("adjournment, index", NO_INDEX, () -> adjourned(so), 0, times - 1, (court, i) -> court.adjournment(1, i, property));
            }
            for (int index = 0; index < times; index++) {
                int at = index;
                Check.edges("adjournment, what", NO_INDEX, () -> adjourned(so), 0, 3, (court, what) -> court.adjournment(1, at, what));
            }
            Check.refused("adjournment of the other case", NO_INDEX, () -> adjourned(so), (court, i) -> court.adjournment(0, i, 0));
        }
    }

    private static void spans() {
        for (int day : new int[] {0, 1, 300, 598, 599}) {
            Check.edges("usage, from", NO_ARGUMENT, RefusedCallsTest::full, 0, day, (court, from) -> court.usage(2, from, day));
            Check.edges("usage, to", NO_ARGUMENT, RefusedCallsTest::full, day, 599, (court, to) -> court.usage(2, day, to));
            Check.edges("workingDays, from", NO_ARGUMENT, RefusedCallsTest::full, 0, day, (court, from) -> court.workingDays(from, day));
            Check.edges("workingDays, to", NO_ARGUMENT, RefusedCallsTest::full, day, 599, (court, to) -> court.workingDays(day, to));
        }
        for (int day : new int[] {-1, 600, Integer.MIN_VALUE, Integer.MAX_VALUE}) {
            Check.refused("usage of one day", NO_ARGUMENT, RefusedCallsTest::full, (court, one) -> court.usage(0, one, one), day);
            Check.refused("workingDays of one day", NO_ARGUMENT, RefusedCallsTest::full, (court, one) -> court.workingDays(one, one), day);
        }
    }

    private static CourtCalendar onDay(int day) {
        CourtCalendar court = Check.court("witness w days 0 599;case c filed 99 slots 1 limit 60;");
        for (int left = day; left > 0; left -= 99) {
            court.pass(Math.min(left, 99));
        }
        Check.same("the present day", court.count(7), day);
        return Check.laden(court);
    }

    private static void daysToPass() {
        int[] days = {0, 1, 499, 500, 501, 550, 597, 598, 599};
        for (int day : days) {
            int most = Math.min(99, 599 - day);
            Check.edges("pass on " + day, NO_ARGUMENT, () -> onDay(day), 1, most, CourtCalendar::pass);
            Check.edges("lapsesIn on " + day, NO_ARGUMENT, () -> onDay(day), 1, most, CourtCalendar::lapsesIn);
        }
    }

    /** Just days from the present one on; these are working days, each of them. */
    private static void daysToCome() {
        for (int day : new int[] {0, 1, 7, 100, 598, 599}) {
            Check.edges("withdraw on " + day, NO_ARGUMENT, () -> onDay(day), day, 599, (court, from) -> court.withdraw(0, from));
            Check.edges("addHoliday on " + day, NO_ARGUMENT, () -> onDay(day), day, 599, CourtCalendar::addHoliday);
        }
    }

    private static void urgentIndexes() {
        Check.edges("urgent, no case", NO_ELEMENT, CourtCalendar::new, 0, -1, CourtCalendar::urgent);
        Check.edges("urgent, none waiting", NO_ELEMENT, RefusedCallsTest::full, 0, -1, CourtCalendar::urgent);
        Check.edges("urgent, one waiting", NO_ELEMENT, () -> allWaiting(RefusedCallsTest::single), 0, 0, CourtCalendar::urgent);
        Check.edges("urgent, two waiting", NO_ELEMENT, RefusedCallsTest::various, 0, 1, CourtCalendar::urgent);
        Check.edges("urgent, all waiting", NO_ELEMENT, () -> allWaiting(RefusedCallsTest::full), 0, 11, CourtCalendar::urgent);
    }

    // ---- what the state of a case or of the calendar refuses

    private static void refusedNow(String what, Check.Asking call, int argument) {
        Check.refused(what, NO_STATE, RefusedCallsTest::various, call, argument);
    }

    private static void finishedCases() {
        int[] states = {0, 1, 2, 3, 1, 0};
        for (int number = 0; number < states.length; number++) {
            Check.same("state of " + number, various().matter(number, 5), states[number]);
        }
        for (int number : new int[] {HEARD, LAPSED}) {
            refusedNow("problem", (court, finished) -> court.problem(finished, 3, 5, 0, 1), number);
            refusedNow("opening", (court, finished) -> court.opening(finished, 0), number);
            refusedNow("opening", (court, finished) -> court.opening(finished, 3), number);
            refusedNow("openDays", CourtCalendar::openDays, number);
            refusedNow("plan", (court, finished) -> court.plan(finished, 3, 5, 0, 1), number);
        }
        for (int number : new int[] {WAITING, PLANNED, ADJOURNED_FIVE_TIMES, WITHOUT_OPENING}) {
            CourtCalendar court = various();
            Check.same("problem of " + number, Check.outcome(() -> court.problem(number, 1, 5, 0, 1)), 1);
            Check.same("opening of " + number, Check.outcome(() -> court.opening(number, 3)), new int[] {0, 0, 0, 0, 0, -1}[number]);
            Check.same("openDays of " + number, Check.outcome(() -> court.openDays(number) > 0), number != WITHOUT_OPENING);
        }
    }

    /** The hearings with the problems 1 to 9, and one without a problem. */
    private static void plansWithAProblem() {
        int[][] hearings = {{WAITING, 7, 2, 0, 0}, {WAITING, 5, 7, 0, 0}, {WAITING, 30, 7, 0, 0}, {WAITING, 3, 6, 0, 0},
            {WAITING, 3, 2, 0, 0}, {WAITING, 4, 2, 0, 0}, {PLANNED, 3, 1, 0, 1}, {WAITING, 7, 2, 0, 1}, {WAITING, 7, 1, 0, 0}};
        int[] problems = {0, 1, 2, 3, 4, 5, 4, 7, 8};
        for (int i = 0; i < hearings.length; i++) {
            int[] h = hearings[i];
            Check.same("problem " + i, various().problem(h[0], h[1], h[2], h[3], h[4]), problems[i]);
            if (problems[i] == 0) {
                Check.same("planned", Check.outcome(() -> various().plan(h[0], h[1], h[2], h[3], h[4])), 7);
            } else {
                refusedNow("plan " + i, (court, none) -> court.plan(h[0], h[1], h[2], h[3], h[4]), 0);
            }
        }
        Check.Maker two = () -> Check.laden(twoRooms());
        Check.same("problem 6", two.make().problem(1, 0, 2, 1, 0), 6);
        Check.refused("plan, problem 6", NO_STATE, two, (court, none) -> court.plan(1, 0, 2, 1, 0));
        Check.same("problem 9", two.make().problem(1, 0, 2, 1, 1), 9);
        Check.refused("plan, problem 9", NO_STATE, two, (court, none) -> court.plan(1, 0, 2, 1, 1));
    }

    private static CourtCalendar twoRooms() {
        CourtCalendar court = Check.court("room r slots 0 7;room s slots 0 7;officer o;officer p;witness w days 0 9;"
            + "case a filed 0 slots 1 limit 9 needs w;case b filed 0 slots 1 limit 9 needs w;");
        court.plan(0, 0, 2, 0, 0);
        return court;
    }

    private static void planNextOfEachState() {
        Check.same("waiting", Check.outcome(() -> various().planNext(WAITING)), 3);
        for (int number : new int[] {PLANNED, HEARD, LAPSED, ADJOURNED_FIVE_TIMES}) {
            refusedNow("planNext", CourtCalendar::planNext, number);
        }
        Check.refused("planNext", NO_ELEMENT, RefusedCallsTest::various, CourtCalendar::planNext, WITHOUT_OPENING);
    }

    private static void adjournOfEachState() {
        for (int reason = 0; reason < 4; reason++) {
            int why = reason;
            Check.same("planned", Check.outcome(() -> various().adjourn(PLANNED, why)), new int[] {29, 22, 15, 15}[why]);
            for (int number : new int[] {WAITING, HEARD, LAPSED, ADJOURNED_FIVE_TIMES, WITHOUT_OPENING}) {
                refusedNow("adjourn", (court, refused) -> court.adjourn(refused, why), number);
            }
        }
    }

    private static CourtCalendar withHolidays(int holidays) {
        return Check.laden(Check.court(Check.many("holiday 10%;", Math.min(holidays, 10)) + Check.many("holiday 20%;", holidays - 10)));
    }

    private static void holidaysRefused() {
        refusedNow("addHoliday on a holiday of the text", CourtCalendar::addHoliday, 9);
        refusedNow("addHoliday on a new holiday", CourtCalendar::addHoliday, 8);
        refusedNow("addHoliday", CourtCalendar::addHoliday, 5);
        refusedNow("addHoliday", CourtCalendar::addHoliday, 6);
        refusedNow("addHoliday", CourtCalendar::addHoliday, 594);
        Check.same("a working day", Check.outcome(() -> various().addHoliday(4)), 0);
        for (int holidays = 17; holidays <= 20; holidays++) {
            int so = holidays;
            Check.same("so many", withHolidays(so).count(4), so);
            if (so < 20) {
                Check.same("one more", Check.outcome(() -> withHolidays(so).addHoliday(0)), 0);
            } else {
                Check.refused("a 21st", NO_STATE, () -> withHolidays(so), CourtCalendar::addHoliday, 0);
                Check.refused("a 21st", NO_STATE, () -> withHolidays(so), CourtCalendar::addHoliday, 599);
            }
        }
    }

    private static void barsRefused() {
        refusedNow("addBar of the text", (court, officer) -> court.addBar(officer, WITHOUT_OPENING), 0);
        refusedNow("addBar of the text", (court, officer) -> court.addBar(officer, WITHOUT_OPENING), 1);
        Check.same("another case", Check.outcome(() -> various().addBar(0, WAITING)), false);
        Check.refused("addBar again", NO_STATE, RefusedCallsTest::full, (court, number) -> court.addBar(5, number), 4);
        Check.same("another officer", Check.outcome(() -> full().addBar(4, 3)), false);
        for (int number : new int[] {HEARD, LAPSED}) {
            Check.same("of a finished case", Check.outcome(() -> various().addBar(0, number)), false);
        }
    }

    private static void nothingToUndo() {
        Check.refused("undo, new", NO_STATE, CourtCalendar::new, (court, none) -> court.undo());
        Check.refused("undo, parsed", NO_STATE, () -> Check.court("officer o;"), (court, none) -> court.undo());
        Check.refused("undo, all undone", NO_STATE, RefusedCallsTest::allUndone, (court, none) -> court.undo());
        Check.refused("undo, restored", NO_STATE, RefusedCallsTest::restored, (court, none) -> court.undo());
    }

    private static CourtCalendar allUndone() {
        CourtCalendar court = various();
        while (court.count(9) > 0) {
            court.undo();
        }
        return court;
    }

    private static CourtCalendar restored() {
        CourtCalendar court = various();
        court.restoreState();
        return court;
    }

    private static void nothingSaved() {
        Check.refused("restoreState, new", NO_STATE, CourtCalendar::new, (court, none) -> court.restoreState());
        Check.refused("restoreState, changed", NO_STATE, RefusedCallsTest::twoRooms, (court, none) -> court.restoreState());
        Check.refused("restoreState, parsed", NO_STATE, RefusedCallsTest::parsedAgain, (court, none) -> court.restoreState());
    }

    private static CourtCalendar parsedAgain() {
        CourtCalendar court = various();
        Check.same("parse", court.parse(), 0);
        court.pass(3);
        return court;
    }

    // ---- which exception comes first

    private static void first(String what, Class<?> due, Check.Asking call) {
        Check.refused(what, due, RefusedCallsTest::various, call);
    }

    private static void indexBeforeArgument() {
        for (int wrong : new int[] {-1, 99}) {
            first("isOff", NO_INDEX, (court, none) -> court.isOff(wrong, 600));
            first("caseAt, day", NO_INDEX, (court, none) -> court.caseAt(wrong, -1, 0));
            first("caseAt, slot", NO_INDEX, (court, none) -> court.caseAt(wrong, 0, 8));
            first("usage", NO_INDEX, (court, none) -> court.usage(wrong, 3, 2));
            first("adjourn", NO_INDEX, (court, none) -> court.adjourn(wrong, 4));
            first("withdraw", NO_INDEX, (court, none) -> court.withdraw(wrong, 0));
            int[][] hearings = {{wrong, 600, 0, 0, 0}, {wrong, 0, 8, 0, 0}, {0, -1, 0, wrong, 0}, {0, 0, -1, wrong, 0},
                {0, 600, 0, 0, wrong}, {0, 0, 8, 0, wrong}};
            for (int[] h : hearings) {
                first("problem", NO_INDEX, (court, none) -> court.problem(h[0], h[1], h[2], h[3], h[4]));
                first("plan", NO_INDEX, (court, none) -> court.plan(h[0], h[1], h[2], h[3], h[4]));
            }
        }
    }

    private static void indexBeforeState() {
        for (int number : new int[] {HEARD, LAPSED}) {
            first("problem, room", NO_INDEX, (court, none) -> court.problem(number, 3, 1, 1, 0));
            first("problem, officer", NO_INDEX, (court, none) -> court.problem(number, 3, 1, 0, 2));
            first("plan, room", NO_INDEX, (court, none) -> court.plan(number, 3, 1, -1, 0));
            first("plan, officer", NO_INDEX, (court, none) -> court.plan(number, 3, 1, 0, -1));
            first("opening", NO_INDEX, (court, none) -> court.opening(number, 4));
            first("opening", NO_INDEX, (court, none) -> court.opening(number, -1));
        }
        first("plan with a problem, room", NO_INDEX, (court, none) -> court.plan(WAITING, 5, 1, 1, 0));
        first("addBar, officer", NO_INDEX, (court, none) -> court.addBar(2, WITHOUT_OPENING));
        first("addBar, case", NO_INDEX, (court, none) -> court.addBar(0, 6));
    }

    private static void argumentBeforeState() {
        for (int number : new int[] {HEARD, LAPSED}) {
            first("problem, day", NO_ARGUMENT, (court, none) -> court.problem(number, 600, 1, 0, 0));
            first("problem, slot", NO_ARGUMENT, (court, none) -> court.problem(number, 3, 8, 0, 0));
            first("plan, day", NO_ARGUMENT, (court, none) -> court.plan(number, -1, 1, 0, 0));
            first("plan, slot", NO_ARGUMENT, (court, none) -> court.plan(number, 3, -1, 0, 0));
            first("adjourn", NO_ARGUMENT, (court, none) -> court.adjourn(number, 4));
            first("adjourn", NO_ARGUMENT, (court, none) -> court.adjourn(number, -1));
        }
        first("plan with a problem, slot", NO_ARGUMENT, (court, none) -> court.plan(WAITING, 5, 8, 0, 0));
        first("adjourn a waiting case", NO_ARGUMENT, (court, none) -> court.adjourn(WAITING, 4));
        first("adjourn a sixth time", NO_ARGUMENT, (court, none) -> court.adjourn(ADJOURNED_FIVE_TIMES, 4));
        Check.refused("addHoliday, day", NO_ARGUMENT, () -> withHolidays(20), CourtCalendar::addHoliday, 600);
        Check.refused("addHoliday, day", NO_ARGUMENT, () -> withHolidays(20), CourtCalendar::addHoliday, -1);
    }

    // ---- what only reads

    private static void readingChangesNothing() {
        Check.Asking[] readings = {(court, x) -> court.errorCode(), (court, x) -> court.errorOffset(), (court, x) -> court.outputByte(x),
            (court, x) -> court.count(x), (court, x) -> court.isWorkingDay(x), (court, x) -> court.workingDays(x, 99),
            (court, x) -> court.lengthening(x % 4), (court, x) -> court.witness(x, x % 5), (court, x) -> court.isOff(x % 6, x),
            (court, x) -> court.isBarred(x % 6, x), (court, x) -> court.load(x % 6), (court, x) -> court.matter(x, x % 10),
            (court, x) -> court.hearing(x, x % 4), (court, x) -> court.caseAt(x % 3, x, x % 8),
            (court, x) -> court.problem(x, 4, x % 8, x % 3, x % 6), (court, x) -> court.opening(x, x % 4), (court, x) -> court.openDays(x),
            (court, x) -> court.urgent(x), (court, x) -> court.slack(x), (court, x) -> court.eligible(x), (court, x) -> court.fewestOfficers(),
            (court, x) -> court.meanSlack(), (court, x) -> court.usage(x % 3, x, 99), (court, x) -> court.lapsesIn(x + 1),
            (court, x) -> court.plannable(), (court, x) -> court.keyOfficer(), (court, x) -> court.feed(x, x, x, x, x) == -1 || court.truncate(26)};
        String due = Check.drained(allWaiting(RefusedCallsTest::full));
        for (Check.Asking reading : readings) {
            CourtCalendar court = allWaiting(RefusedCallsTest::full);
            for (int x = 0; x < 12; x++) {
                reading.ask(court, x);
            }
            Check.same("what only reads changes nothing", Check.drained(court), due);
        }
    }
}
