/** Promises 9 to 28: what is read of the calendar, problems, openings, urgency, and figures. */
public final class ReadingTest {
    private static final Class<?> NO_INDEX = IndexOutOfBoundsException.class;
    private static final Class<?> NO_ARGUMENT = IllegalArgumentException.class;
    private static final Class<?> NO_STATE = IllegalStateException.class;

    public static void main(String[] args) {
        promise9IsWorkingDay();
        promise10WorkingDays();
        promise11Lengthening();
        promise12Witness();
        promise13IsOff();
        promise14IsBarred();
        promise15Load();
        promise16Matter();
        promise16LimitDay();
        promise17Hearing();
        promise18Adjournment();
        promise19CaseAt();
        promise20Problem();
        promise20ProblemOrder();
        promise20ProblemThrows();
        promise21Opening();
        promise21OpeningOfficer();
        promise21OpeningThrows();
        promise22OpenDays();
        promise23Urgent();
        promise24Slack();
        promise25Eligible();
        promise26FewestOfficers();
        promise26FewestOfficersBars();
        promise27MeanSlack();
        promise28Usage();
        Check.end("ReadingTest");
    }

    private static void promise9IsWorkingDay() {
        Check.same("day 0", Check.court("").isWorkingDay(0), true);
        Check.same("holiday 0", Check.court("holiday 0;").isWorkingDay(0), false);
        CourtCalendar court = Check.court("holiday 8;holiday 12;");
        boolean[] due = {true, true, true, true, true, false, false, true, false, true, true, true, false, false, true};
        for (int day = 0; day < due.length; day++) {
            Check.same("isWorkingDay " + day, court.isWorkingDay(day), due[day]);
        }
        Check.same("599 is the fifth of its week", court.isWorkingDay(599), true);
        court.addHoliday(599);
        Check.same("a new holiday", court.isWorkingDay(599), false);
        Check.fails("day -1", NO_ARGUMENT, court, () -> court.isWorkingDay(-1));
        Check.fails("day 600", NO_ARGUMENT, court, () -> court.isWorkingDay(600));
    }

    private static void promise10WorkingDays() {
        CourtCalendar court = Check.court("holiday 8;holiday 12;");
        Check.same("one", court.workingDays(7, 7), 1);
        Check.same("a holiday", court.workingDays(8, 8), 0);
        Check.same("a weekend", court.workingDays(5, 6), 0);
        Check.same("two weeks", court.workingDays(0, 13), 9);
        Check.same("all", court.workingDays(0, 599), 429);
        court.addHoliday(3);
        Check.same("with a new holiday", court.workingDays(0, 13), 8);
        Check.fails("to before from", NO_ARGUMENT, court, () -> court.workingDays(3, 2));
        Check.fails("from -1", NO_ARGUMENT, court, () -> court.workingDays(-1, 2));
        Check.fails("to 600", NO_ARGUMENT, court, () -> court.workingDays(0, 600));
        Check.fails("from 600", NO_ARGUMENT, court, () -> court.workingDays(600, 600));
        Check.same("last day", court.workingDays(599, 599), 1);
    }

    private static void promise11Lengthening() {
        CourtCalendar court = Check.court("lengthen 2 30;lengthen 0 0;");
        int[] due = {0, 5, 30, 0};
        for (int reason = 0; reason < 4; reason++) {
            Check.same("lengthening " + reason, court.lengthening(reason), due[reason]);
        }
        Check.fails("reason -1", NO_ARGUMENT, court, () -> court.lengthening(-1));
        Check.fails("reason 4", NO_ARGUMENT, court, () -> court.lengthening(4));
    }

    private static void promise12Witness() {
        CourtCalendar court = Check.court("room r slots 0 7;officer o;witness w days 3 9 slots 2 5;witness v days 0 599;"
                + "case a filed 0 slots 1 limit 9 needs v;case b filed 0 slots 1 limit 9 needs v needs w;");
        int[][] due = {{3, 9, 2, 5, 0}, {0, 599, 0, 7, 0}};
        for (int witness = 0; witness < 2; witness++) {
            for (int what = 0; what < 5; what++) {
                Check.same("witness " + witness + " " + what, court.witness(witness, what), due[witness][what]);
            }
        }
        court.plan(0, 0, 0, 0, 0);
        court.plan(1, 3, 2, 0, 0);
        Check.same("planned with v", court.witness(1, 4), 2);
        Check.same("planned with w", court.witness(0, 4), 1);
        court.pass(1);
        Check.same("a heard case is not planned", court.witness(1, 4), 1);
        court.withdraw(0, 2);
        Check.same("first day stays", court.witness(0, 0), 3);
        Check.same("last day as it is now", court.witness(0, 1), 1);
        Check.same("taken away", court.witness(1, 4), 0);
        Check.fails("witness -1", NO_INDEX, court, () -> court.witness(-1, 0));
        Check.fails("witness 2", NO_INDEX, court, () -> court.witness(2, 0));
        Check.fails("what -1", NO_INDEX, court, () -> court.witness(0, -1));
        Check.fails("what 5", NO_INDEX, court, () -> court.witness(0, 5));
    }

    private static void promise13IsOff() {
        CourtCalendar court = Check.court("officer a off 3 5 off 9 9 off 0 0;officer b;officer c off 598 599;");
        boolean[] due = {true, false, false, true, true, true, false, false, false, true, false};
        for (int day = 0; day < due.length; day++) {
            Check.same("isOff 0 " + day, court.isOff(0, day), due[day]);
            Check.same("isOff 1 " + day, court.isOff(1, day), false);
        }
        Check.same("last day", court.isOff(2, 599), true);
        Check.fails("officer -1", NO_INDEX, court, () -> court.isOff(-1, 0));
        Check.fails("officer 3", NO_INDEX, court, () -> court.isOff(3, 600));
        Check.fails("day -1", NO_ARGUMENT, court, () -> court.isOff(0, -1));
        Check.fails("day 600", NO_ARGUMENT, court, () -> court.isOff(0, 600));
    }

    private static CourtCalendar conflicting() {
        return Check.court("room r slots 0 7;officer o;officer p;case a filed 0 slots 1 limit 20;"
                + "case b filed 0 slots 2 limit 20;case c filed 0 slots 3 limit 20;conflict a b;conflict b c;bar o c;");
    }

    private static void promise14IsBarred() {
        CourtCalendar court = conflicting();
        Check.same("a bar", court.isBarred(0, 2), true);
        Check.same("of the other officer", court.isBarred(1, 2), false);
        Check.same("no hearing yet", court.isBarred(0, 0), false);
        court.plan(1, 0, 0, 0, 0);
        Check.same("a conflict", court.isBarred(0, 0), true);
        Check.same("not from the case itself", court.isBarred(0, 1), false);
        Check.same("the other officer is free", court.isBarred(1, 0), false);
        court.pass(1);
        Check.same("a heard hearing bars too", court.isBarred(0, 0), true);
        court.undo();
        court.adjourn(1, 0);
        Check.same("no hearing any more", court.isBarred(0, 0), false);
        court.addBar(1, 1);
        Check.same("a new bar", court.isBarred(1, 1), true);
        Check.fails("officer -1", NO_INDEX, court, () -> court.isBarred(-1, 0));
        Check.fails("officer 2", NO_INDEX, court, () -> court.isBarred(2, 0));
        Check.fails("case -1", NO_INDEX, court, () -> court.isBarred(0, -1));
        Check.fails("case 3", NO_INDEX, court, () -> court.isBarred(0, 3));
    }

    private static void promise15Load() {
        CourtCalendar court = conflicting();
        Check.same("none", court.load(0), 0);
        court.plan(0, 0, 0, 0, 1);
        court.plan(2, 1, 0, 0, 1);
        court.plan(1, 0, 1, 0, 0);
        Check.same("one", court.load(0), 2);
        Check.same("two", court.load(1), 4);
        court.pass(1);
        Check.same("heard ones count", court.load(0), 2);
        Check.same("heard ones count", court.load(1), 4);
        court.adjourn(2, 0);
        Check.same("adjourned ones do not", court.load(1), 1);
        Check.fails("officer -1", NO_INDEX, court, () -> court.load(-1));
        Check.fails("officer 2", NO_INDEX, court, () -> court.load(2));
    }

    private static void promise16Matter() {
        CourtCalendar court = Check.court("room r slots 0 7;officer o;witness v days 0 99;witness w days 0 99;"
                + "case a filed 4 slots 3 limit 7 custody needs v needs w;case b filed 0 slots 1 limit 1;"
                + "case c filed 0 slots 1 limit 60;conflict c a;conflict b c;cap 6;");
        int[][] due = {{4, 3, 7, 0, 15, 0, 1, 0, 2, 1}, {0, 1, 1, 0, 1, 0, 0, 0, 0, 1}, {0, 1, 60, 0, 84, 0, 0, 0, 0, 2}};
        for (int number = 0; number < 3; number++) {
            for (int what = 0; what < 10; what++) {
                Check.same("matter " + number + " " + what, court.matter(number, what), due[number][what]);
            }
        }
        court.plan(0, 4, 0, 0, 0);
        Check.same("planned", court.matter(0, 5), 1);
        court.adjourn(0, 1);
        Check.same("lengthened", court.matter(0, 3), 5);
        Check.same("adjourned once", court.matter(0, 7), 1);
        Check.same("limit day", court.matter(0, 4), 22);
        court.plan(0, 4, 0, 0, 0);
        court.adjourn(0, 0);
        Check.same("at most the cap", court.matter(0, 3), 6);
        Check.same("adjourned twice", court.matter(0, 7), 2);
        court.plan(0, 4, 0, 0, 0);
        court.pass(5);
        Check.same("heard", court.matter(0, 5), 2);
        Check.same("lapsed", court.matter(1, 5), 3);
        Check.same("waiting", court.matter(2, 5), 0);
        Check.fails("case -1", NO_INDEX, court, () -> court.matter(-1, 0));
        Check.fails("case 3", NO_INDEX, court, () -> court.matter(3, 0));
        Check.fails("what -1", NO_INDEX, court, () -> court.matter(0, -1));
        Check.fails("what 10", NO_INDEX, court, () -> court.matter(0, 10));
    }

    private static void promise16LimitDay() {
        CourtCalendar court = Check.court("holiday 1;holiday 5;holiday 9;case a filed 0 slots 1 limit 1;"
                + "case b filed 5 slots 1 limit 1;case c filed 6 slots 1 limit 3;case d filed 99 slots 1 limit 60;");
        Check.same("the day of filing does not count, holidays do not", court.matter(0, 4), 2);
        Check.same("filed on a day that is no working day", court.matter(1, 4), 7);
        Check.same("filed on a weekend", court.matter(2, 4), 10);
        Check.same("far away", court.matter(3, 4), 183);
        court.addHoliday(10);
        Check.same("a new holiday on the limit day", court.matter(2, 4), 11);
        court.addHoliday(183);
        Check.same("over a weekend", court.matter(3, 4), 184);
    }

    private static void promise17Hearing() {
        CourtCalendar court = Check.court("room r slots 0 7;room s slots 1 7;officer o;officer p;"
                + "case a filed 0 slots 1 limit 9;case b filed 0 slots 1 limit 1;");
        for (int what = 0; what < 4; what++) {
            Check.same("no hearing " + what, court.hearing(0, what), -1);
        }
        court.plan(0, 2, 5, 1, 0);
        int[] due = {2, 5, 1, 0};
        for (int what = 0; what < 4; what++) {
            Check.same("planned " + what, court.hearing(0, what), due[what]);
        }
        court.pass(3);
        for (int what = 0; what < 4; what++) {
            Check.same("heard " + what, court.hearing(0, what), due[what]);
            Check.same("lapsed " + what, court.hearing(1, what), -1);
        }
        Check.fails("case -1", NO_INDEX, court, () -> court.hearing(-1, 0));
        Check.fails("case 2", NO_INDEX, court, () -> court.hearing(2, 0));
        Check.fails("what -1", NO_INDEX, court, () -> court.hearing(0, -1));
        Check.fails("what 4", NO_INDEX, court, () -> court.hearing(0, 4));
        Check.fails("what 4 without a hearing", NO_INDEX, court, () -> court.hearing(1, 4));
    }

    private static void promise18Adjournment() {
        CourtCalendar court = Check.court("room r slots 0 7;officer o;case a filed 0 slots 1 limit 30 custody;"
                + "case b filed 0 slots 1 limit 30;cap 12;");
        Check.fails("none yet", NO_INDEX, court, () -> court.adjournment(0, 0, 0));
        court.plan(0, 9, 0, 0, 0);
        court.adjourn(0, 0);
        court.pass(2);
        court.plan(0, 8, 0, 0, 0);
        court.adjourn(0, 1);
        court.plan(0, 10, 0, 0, 0);
        court.addHoliday(10);
        int[][] due = {{0, 0, 9, 10}, {2, 1, 8, 2}, {2, 3, 10, 0}};
        for (int index = 0; index < 3; index++) {
            for (int what = 0; what < 4; what++) {
                Check.same("adjournment " + index + " " + what, court.adjournment(0, index, what), due[index][what]);
            }
        }
        Check.fails("index 3", NO_INDEX, court, () -> court.adjournment(0, 3, 0));
        Check.fails("index -1", NO_INDEX, court, () -> court.adjournment(0, -1, 0));
        Check.fails("what 4", NO_INDEX, court, () -> court.adjournment(0, 0, 4));
        Check.fails("what -1", NO_INDEX, court, () -> court.adjournment(0, 1, -1));
        Check.fails("case 2", NO_INDEX, court, () -> court.adjournment(2, 0, 0));
        Check.fails("case -1", NO_INDEX, court, () -> court.adjournment(-1, 0, 0));
        Check.fails("the other case has none", NO_INDEX, court, () -> court.adjournment(1, 0, 0));
    }

    private static void promise19CaseAt() {
        CourtCalendar court = Check.court("room r slots 0 7;room s slots 0 7;officer o;officer p;"
                + "case a filed 0 slots 3 limit 9;case b filed 0 slots 1 limit 9;");
        court.plan(0, 1, 2, 1, 0);
        court.plan(1, 1, 5, 1, 0);
        int[] due = {-1, -1, 0, 0, 0, 1, -1, -1};
        for (int slot = 0; slot < 8; slot++) {
            Check.same("slot " + slot, court.caseAt(1, 1, slot), due[slot]);
            Check.same("other room " + slot, court.caseAt(0, 1, slot), -1);
            Check.same("other day " + slot, court.caseAt(1, 2, slot), -1);
        }
        court.adjourn(1, 0);
        Check.same("adjourned", court.caseAt(1, 1, 5), -1);
        court.pass(9);
        Check.same("heard", court.caseAt(1, 1, 4), 0);
        Check.fails("room -1", NO_INDEX, court, () -> court.caseAt(-1, 0, 0));
        Check.fails("room 2", NO_INDEX, court, () -> court.caseAt(2, 600, 8));
        Check.fails("day -1", NO_ARGUMENT, court, () -> court.caseAt(0, -1, 0));
        Check.fails("day 600", NO_ARGUMENT, court, () -> court.caseAt(0, 600, 0));
        Check.fails("slot -1", NO_ARGUMENT, court, () -> court.caseAt(0, 0, -1));
        Check.fails("slot 8", NO_ARGUMENT, court, () -> court.caseAt(0, 0, 8));
    }

    /** Case a is planned in room r, slots 2 and 3 of day 7, with officer o and witness w. */
    private static CourtCalendar busy() {
        CourtCalendar court = Check.court("holiday 3;room r slots 1 6;room s slots 0 7;officer o off 9 10;officer p;officer q;"
                + "witness w days 1 15 slots 1 5;witness v days 0 99;case a filed 1 slots 2 limit 10 needs w;"
                + "case b filed 2 slots 2 limit 10 needs v needs w;case c filed 0 slots 3 limit 20;bar q b;conflict c a;");
        court.plan(0, 7, 2, 0, 0);
        return court;
    }

    private static void problemIs(int due, CourtCalendar court, int number, int day, int slot, int room, int officer) {
        String call = "problem(" + number + ", " + day + ", " + slot + ", " + room + ", " + officer + ")";
        Check.same(call, court.problem(number, day, slot, room, officer), due);
    }

    private static void promise20Problem() {
        CourtCalendar court = busy();
        problemIs(1, court, 1, 1, 2, 0, 1);
        problemIs(0, court, 1, 2, 2, 0, 1);
        problemIs(1, court, 1, 3, 2, 0, 1);
        problemIs(1, court, 1, 5, 2, 0, 1);
        problemIs(8, court, 1, 16, 2, 0, 1);
        problemIs(0, court, 2, 29, 2, 0, 1);
        problemIs(2, court, 2, 30, 2, 0, 1);
        problemIs(3, court, 1, 8, 0, 0, 1);
        problemIs(3, court, 1, 8, 6, 0, 1);
        problemIs(3, court, 1, 8, 7, 1, 1);
        problemIs(3, court, 2, 8, 6, 1, 1);
        problemIs(0, court, 2, 8, 5, 1, 1);
        problemIs(4, court, 1, 7, 1, 0, 1);
        problemIs(4, court, 1, 7, 3, 0, 1);
        problemIs(0, court, 1, 7, 4, 0, 1);
        problemIs(0, court, 1, 8, 2, 0, 1);
        problemIs(5, court, 1, 9, 2, 0, 0);
        problemIs(5, court, 1, 10, 2, 0, 0);
        problemIs(0, court, 1, 11, 2, 0, 0);
        problemIs(6, court, 1, 7, 2, 1, 0);
        problemIs(7, court, 1, 7, 4, 1, 2);
        problemIs(7, court, 2, 8, 2, 1, 0);
        problemIs(0, court, 2, 8, 2, 1, 2);
        problemIs(8, court, 1, 8, 0, 1, 1);
        problemIs(8, court, 1, 8, 5, 1, 1);
        problemIs(0, court, 1, 8, 4, 1, 1);
        problemIs(9, court, 1, 7, 1, 1, 1);
        problemIs(9, court, 1, 7, 3, 1, 1);
        problemIs(0, court, 2, 7, 1, 1, 1);
        problemIs(0, court, 0, 7, 2, 0, 0);
        problemIs(0, court, 0, 7, 3, 1, 0);
        court.pass(3);
        problemIs(1, court, 1, 2, 2, 0, 1);
        court.withdraw(1, 8);
        problemIs(8, court, 1, 8, 2, 0, 1);
        problemIs(0, court, 1, 7, 4, 0, 1);
    }

    private static void promise20ProblemOrder() {
        CourtCalendar court = Check.court("room r slots 2 5;officer o off 0 2 off 9 13;witness w days 2 40 slots 2 5;"
                + "case a filed 0 slots 1 limit 20 needs w;case b filed 0 slots 1 limit 20 needs w;conflict a b;"
                + "case c filed 4 slots 1 limit 1 needs w;");
        court.plan(0, 3, 3, 0, 0);
        problemIs(1, court, 2, 3, 7, 0, 0);
        problemIs(2, court, 2, 8, 7, 0, 0);
        problemIs(3, court, 1, 1, 7, 0, 0);
        problemIs(4, court, 1, 3, 3, 0, 0);
        problemIs(5, court, 1, 1, 2, 0, 0);
        problemIs(7, court, 1, 4, 2, 0, 0);
        court.addBar(0, 1);
        problemIs(7, court, 1, 4, 2, 0, 0);
        court.adjourn(0, 2);
        problemIs(7, court, 1, 4, 2, 0, 0);
        CourtCalendar narrow = Check.court("room r slots 0 7;officer o;officer p;witness w days 0 9;witness v days 0 9 slots 0 1;"
                + "case a filed 0 slots 2 limit 9 needs w;case b filed 0 slots 1 limit 9 needs w needs v;room s slots 0 7;");
        narrow.plan(0, 0, 1, 0, 0);
        problemIs(8, narrow, 1, 0, 2, 1, 1);
        problemIs(9, narrow, 1, 0, 1, 1, 1);
        problemIs(0, narrow, 1, 0, 0, 1, 1);
        problemIs(6, narrow, 1, 0, 2, 1, 0);
        narrow.addBar(0, 1);
        problemIs(6, narrow, 1, 0, 2, 1, 0);
        problemIs(7, narrow, 1, 0, 3, 1, 0);
    }

    private static void promise20ProblemThrows() {
        CourtCalendar court = busy();
        Check.fails("case -1", NO_INDEX, court, () -> court.problem(-1, 0, 0, 0, 0));
        Check.fails("case 3", NO_INDEX, court, () -> court.problem(3, -1, 0, 0, 0));
        Check.fails("room -1", NO_INDEX, court, () -> court.problem(0, 600, 0, -1, 0));
        Check.fails("room 2", NO_INDEX, court, () -> court.problem(0, 0, 8, 2, 0));
        Check.fails("officer -1", NO_INDEX, court, () -> court.problem(0, 0, -1, 0, -1));
        Check.fails("officer 3", NO_INDEX, court, () -> court.problem(0, 0, 0, 0, 3));
        Check.fails("day -1", NO_ARGUMENT, court, () -> court.problem(0, -1, 0, 0, 0));
        Check.fails("day 600", NO_ARGUMENT, court, () -> court.problem(0, 600, 0, 0, 0));
        Check.fails("slot -1", NO_ARGUMENT, court, () -> court.problem(0, 0, -1, 0, 0));
        Check.fails("slot 8", NO_ARGUMENT, court, () -> court.problem(0, 0, 8, 0, 0));
        court.pass(50);
        Check.fails("heard", NO_STATE, court, () -> court.problem(0, 60, 0, 0, 0));
        Check.fails("lapsed", NO_STATE, court, () -> court.problem(1, 60, 0, 0, 0));
        Check.fails("lapsed, but slot 8", NO_ARGUMENT, court, () -> court.problem(1, 60, 8, 0, 0));
    }

    private static void openingIs(CourtCalendar court, int number, int... due) {
        for (int what = 0; what < 4; what++) {
            Check.same("opening " + number + " " + what, court.opening(number, what), due[due.length == 1 ? 0 : what]);
        }
    }

    private static void promise21Opening() {
        CourtCalendar court = Check.court("holiday 7;room r slots 3 7;room s slots 1 2;room t slots 1 7;officer o off 0 8;"
                + "witness w days 2 11 slots 1 6;case a filed 1 slots 2 limit 9 needs w;case b filed 0 slots 2 limit 9 needs w;"
                + "case c filed 0 slots 4 limit 9;case d filed 0 slots 1 limit 5;");
        openingIs(court, 0, 9, 1, 1, 0);
        court.plan(1, 9, 1, 1, 0);
        openingIs(court, 1, 9, 1, 1, 0);
        openingIs(court, 0, 9, 3, 0, 0);
        court.plan(2, 9, 3, 2, 0);
        openingIs(court, 0, 10, 1, 1, 0);
        openingIs(court, 3, -1);
        court.withdraw(0, 10);
        openingIs(court, 0, -1);
        Check.same("nothing is planned by it", court.hearing(0, 0), -1);
        openingIs(court, 1, 9, 1, 1, 0);
        court.pass(10);
        openingIs(court, 0, -1);
        CourtCalendar empty = Check.court("case a filed 0 slots 1 limit 9;officer o;");
        openingIs(empty, 0, -1);
        CourtCalendar late = Check.court("room r slots 4 7;officer o;case a filed 99 slots 4 limit 9;");
        openingIs(late, 0, 99, 4, 0, 0);
    }

    private static void promise21OpeningOfficer() {
        CourtCalendar court = Check.court("room r slots 0 7;officer o;officer p;officer q;case a filed 0 slots 2 limit 9;"
                + "case b filed 0 slots 1 limit 9;case c filed 0 slots 1 limit 9;case d filed 0 slots 1 limit 9;bar q c;");
        openingIs(court, 0, 0, 0, 0, 0);
        court.plan(0, 4, 0, 0, 0);
        openingIs(court, 1, 0, 0, 0, 1);
        openingIs(court, 0, 0, 0, 0, 1);
        court.plan(1, 4, 2, 0, 1);
        openingIs(court, 3, 0, 0, 0, 2);
        openingIs(court, 2, 0, 0, 0, 1);
        openingIs(court, 1, 0, 0, 0, 2);
    }

    private static void promise21OpeningThrows() {
        CourtCalendar court = busy();
        Check.fails("case -1", NO_INDEX, court, () -> court.opening(-1, 0));
        Check.fails("case 3", NO_INDEX, court, () -> court.opening(3, 0));
        Check.fails("what -1", NO_INDEX, court, () -> court.opening(0, -1));
        Check.fails("what 4", NO_INDEX, court, () -> court.opening(0, 4));
        court.pass(50);
        Check.fails("heard", NO_STATE, court, () -> court.opening(0, 0));
        Check.fails("lapsed", NO_STATE, court, () -> court.opening(1, 0));
        Check.fails("lapsed, but what 4", NO_INDEX, court, () -> court.opening(1, 4));
    }

    private static void promise22OpenDays() {
        CourtCalendar court = busy();
        // days 2, 4, 7 to 11, 14 and 15: no weekend, no holiday, in the windows and not after the limit day 17
        Check.same("waiting", court.openDays(1), 9);
        Check.same("planned", court.openDays(0), 10);
        CourtCalendar barred = Check.court("room r slots 0 7;officer o;case a filed 0 slots 1 limit 4;case b filed 0 slots 1 limit 4;bar o b;");
        openingIs(barred, 1, -1);
        Check.same("the bar of another case is none", barred.openDays(0), 5);
        openingIs(barred, 0, 0, 0, 0, 0);
        Check.same("its own bar is", barred.openDays(1), 0);
        Check.same("without witnesses", court.openDays(2), 21);
        court.pass(8);
        Check.same("from the present day", court.openDays(1), 6);
        court.withdraw(0, 8);
        Check.same("none", court.openDays(1), 0);
        Check.fails("case -1", NO_INDEX, court, () -> court.openDays(-1));
        Check.fails("case 3", NO_INDEX, court, () -> court.openDays(3));
        Check.fails("heard", NO_STATE, court, () -> court.openDays(0));
        court.pass(50);
        Check.fails("lapsed", NO_STATE, court, () -> court.openDays(1));
    }

    private static void promise23Urgent() {
        CourtCalendar court = Check.court("room r slots 0 7;officer o;case a filed 0 slots 1 limit 9;"
                + "case b filed 0 slots 1 limit 8;case c filed 1 slots 1 limit 8 custody;case d filed 1 slots 1 limit 8;"
                + "case e filed 0 slots 1 limit 8 custody;case f filed 2 slots 1 limit 7 custody;");
        int[] due = {4, 1, 2, 5, 0, 3};
        for (int index = 0; index < due.length; index++) {
            Check.same("urgent " + index, court.urgent(index), due[index]);
        }
        Check.fails("index 6", java.util.NoSuchElementException.class, court, () -> court.urgent(6));
        Check.fails("index -1", java.util.NoSuchElementException.class, court, () -> court.urgent(-1));
        CourtCalendar near = Check.court("case a filed 0 slots 1 limit 8;case b filed 0 slots 1 limit 7 custody;"
                + "case c filed 0 slots 1 limit 6;case d filed 0 slots 1 limit 9 custody;case e filed 0 slots 1 limit 7;");
        int[] nearDue = {2, 1, 4, 0, 3};
        for (int index = 0; index < nearDue.length; index++) {
            Check.same("near urgent " + index, near.urgent(index), nearDue[index]);
        }
        CourtCalendar before = Check.court("case a filed 0 slots 1 limit 8 custody;case b filed 0 slots 1 limit 7;");
        Check.same("the limit day comes first", before.urgent(0), 1);
        court.planNext(1);
        Check.same("a planned one is left out", court.urgent(1), 2);
        Check.fails("index 5", java.util.NoSuchElementException.class, court, () -> court.urgent(5));
        court.adjourn(1, 1);
        Check.same("with a later limit day", court.urgent(5), 1);
    }

    private static void promise24Slack() {
        CourtCalendar court = Check.court("holiday 2;room r slots 0 7;officer o;case a filed 0 slots 1 limit 3;"
                + "case b filed 9 slots 1 limit 1;");
        Check.same("both included", court.slack(0), 4);
        Check.same("before it is filed", court.slack(1), 8);
        court.plan(0, 4, 0, 0, 0);
        Check.same("planned", court.slack(0), 4);
        court.pass(3);
        Check.same("the limit day is tomorrow", court.slack(0), 2);
        court.pass(1);
        Check.same("the limit day is now", court.slack(0), 1);
        court.pass(1);
        Check.same("heard", court.matter(0, 5), 2);
        Check.same("the limit day is gone", court.slack(0), 0);
        Check.fails("case -1", NO_INDEX, court, () -> court.slack(-1));
        Check.fails("case 2", NO_INDEX, court, () -> court.slack(2));
    }

    private static void promise25Eligible() {
        CourtCalendar court = conflicting();
        Check.same("all", court.eligible(0), 3);
        Check.same("a bar", court.eligible(2), 2);
        court.plan(1, 0, 0, 0, 1);
        Check.same("a conflict", court.eligible(0), 1);
        Check.same("both", court.eligible(2), 0);
        Check.same("the case itself", court.eligible(1), 3);
        court.pass(1);
        Check.same("heard", court.eligible(0), 1);
        Check.fails("case -1", NO_INDEX, court, () -> court.eligible(-1));
        Check.fails("case 3", NO_INDEX, court, () -> court.eligible(3));
        CourtCalendar none = Check.court("case a filed 0 slots 1 limit 1;");
        Check.same("no officers", none.eligible(0), 0);
        CourtCalendar six = Check.court("officer a;officer b;officer c;officer d;officer e;officer f;"
                + "case a filed 0 slots 1 limit 1;bar e a;");
        Check.same("six officers", six.eligible(0), 47);
    }

    private static String cases(int number) {
        StringBuilder all = new StringBuilder();
        for (int i = 0; i < number; i++) {
            all.append("case ").append((char) ('a' + i)).append(" filed 0 slots 1 limit 1;");
        }
        return all.toString();
    }

    private static String officers(int number) {
        StringBuilder all = new StringBuilder();
        for (int i = 0; i < number; i++) {
            all.append("officer ").append((char) ('a' + i)).append(';');
        }
        return all.toString();
    }

    private static String allConflicts(int number) {
        StringBuilder all = new StringBuilder();
        for (int i = 0; i < number; i++) {
            for (int j = 0; j < i; j++) {
                all.append("conflict ").append((char) ('a' + i)).append(' ').append((char) ('a' + j)).append(';');
            }
        }
        return all.toString();
    }

    private static void promise26FewestOfficers() {
        Check.same("no cases", Check.court(officers(2)).fewestOfficers(), 0);
        Check.same("no officers", Check.court(cases(1)).fewestOfficers(), -1);
        Check.same("no conflicts", Check.court(officers(6) + cases(12)).fewestOfficers(), 1);
        Check.same("six in conflict", Check.court(officers(6) + cases(12) + allConflicts(6)).fewestOfficers(), 6);
        Check.same("seven in conflict", Check.court(officers(6) + cases(7) + allConflicts(7)).fewestOfficers(), -1);
        Check.same("a ring of four", Check.court(officers(3) + cases(4)
                + "conflict a b;conflict b c;conflict c d;conflict d a;").fewestOfficers(), 2);
        Check.same("a ring of five", Check.court(officers(3) + cases(5)
                + "conflict a b;conflict b c;conflict c d;conflict d e;conflict e a;").fewestOfficers(), 3);
        Check.same("a ring of five, two officers", Check.court(officers(2) + cases(5)
                + "conflict a b;conflict b c;conflict c d;conflict d e;conflict e a;").fewestOfficers(), -1);
    }

    private static void promise26FewestOfficersBars() {
        CourtCalendar court = Check.court("room r slots 0 7;" + officers(3) + cases(4) + "bar a b;bar b a;conflict a d;");
        Check.same("with bars", court.fewestOfficers(), 2);
        court.planAll();
        Check.same("whoever has a hearing", court.fewestOfficers(), 2);
        court.addBar(2, 2);
        Check.same("still", court.fewestOfficers(), 2);
        court.addBar(2, 0);
        Check.same("still", court.fewestOfficers(), 2);
        court.addBar(1, 3);
        court.addBar(1, 2);
        Check.same("a has a and c, c has b and d", court.fewestOfficers(), 2);
        court.addBar(0, 2);
        Check.same("c has none", court.fewestOfficers(), -1);
        court.undo();
        Check.same("again", court.fewestOfficers(), 2);
        CourtCalendar third = Check.court(officers(4) + cases(3) + "bar a c;bar b a;bar b b;bar c b;bar c c;bar d a;bar d b;");
        Check.same("a has a and b, b or d has c", third.fewestOfficers(), 2);
        CourtCalendar lone = Check.court(officers(3) + cases(2) + "bar a a;bar b b;");
        Check.same("the last officer alone", lone.fewestOfficers(), 1);
    }

    private static void promise27MeanSlack() {
        CourtCalendar court = Check.court("room r slots 0 7;officer o;case a filed 0 slots 1 limit 4;"
                + "case b filed 0 slots 1 limit 3;case c filed 0 slots 1 limit 1;");
        Check.same("5, 4 and 2", court.meanSlack(), 11.0 / 3.0);
        court.planNext(0);
        Check.same("4 and 2", court.meanSlack(), 3.0);
        court.pass(2);
        Check.same("2", court.meanSlack(), 2.0);
        court.planNext(1);
        Check.same("none", court.meanSlack(), 0.0);
    }

    private static void promise28Usage() {
        CourtCalendar court = Check.court("holiday 1;room r slots 1 3;room s slots 0 7;officer o;case a filed 0 slots 2 limit 9;"
                + "case b filed 0 slots 3 limit 9;case c filed 0 slots 1 limit 9;");
        court.plan(0, 0, 2, 0, 0);
        court.plan(1, 2, 1, 0, 0);
        court.plan(2, 3, 1, 1, 0);
        Check.same("one day", court.usage(0, 0, 0), 2f / 3f);
        Check.same("all slots", court.usage(0, 2, 2), 1f);
        Check.same("with a holiday", court.usage(0, 0, 2), 5f / 6f);
        Check.same("two weeks", court.usage(0, 0, 13), 5f / 27f);
        Check.same("the other room", court.usage(1, 0, 6), 1f / 32f);
        Check.same("no working days", court.usage(0, 5, 6), 0f);
        Check.same("a holiday", court.usage(0, 1, 1), 0f);
        Check.same("all days", court.usage(1, 0, 599), 1f / (8f * 429f));
        court.pass(3);
        Check.same("heard ones count", court.usage(0, 0, 2), 5f / 6f);
        Check.fails("room -1", NO_INDEX, court, () -> court.usage(-1, 0, 0));
        Check.fails("room 2", NO_INDEX, court, () -> court.usage(2, 1, 0));
        Check.fails("from -1", NO_ARGUMENT, court, () -> court.usage(0, -1, 0));
        Check.fails("to before from", NO_ARGUMENT, court, () -> court.usage(0, 1, 0));
        Check.fails("to 600", NO_ARGUMENT, court, () -> court.usage(0, 0, 600));
    }
}
