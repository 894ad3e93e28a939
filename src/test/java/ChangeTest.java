import java.util.NoSuchElementException;

/** Promises 29 to 37: the changes and undoing them. */
public final class ChangeTest {
    private static final Class<?> NO_INDEX = IndexOutOfBoundsException.class;
    private static final Class<?> NO_ARGUMENT = IllegalArgumentException.class;
    private static final Class<?> NO_STATE = IllegalStateException.class;
    private static final Class<?> NO_ELEMENT = NoSuchElementException.class;

    public static void main(String[] args) {
        promise29Pass();
        promise29PassLimits();
        promise30Plan();
        promise30PlanThrows();
        promise31PlanNext();
        promise32PlanAll();
        promise33Adjourn();
        promise33AdjournCap();
        promise33AdjournThrows();
        promise34Withdraw();
        promise34WithdrawBeyondFive();
        promise35AddHoliday();
        promise35AddHolidayThrows();
        promise36AddBar();
        promise36AddBarBeyondFive();
        promise37UndoEachChange();
        promise37UndoEight();
        promise37UndoneAreGone();
        Check.end("ChangeTest");
    }

    /** Each digit is the state of a case. */
    private static String states(CourtCalendar court) {
        StringBuilder all = new StringBuilder();
        for (int number = 0; number < court.count(3); number++) {
            all.append(court.matter(number, 5));
        }
        return all.toString();
    }

    private static void promise29Pass() {
        CourtCalendar court = Check.court("room r slots 0 7;room s slots 0 7;officer o;officer p;"
                + "case a filed 0 slots 2 limit 1;case b filed 0 slots 2 limit 1;case c filed 0 slots 2 limit 2;"
                + "case d filed 0 slots 2 limit 9;");
        court.plan(0, 1, 0, 0, 0);
        court.plan(3, 1, 0, 1, 1);
        Check.same("nothing on the first day", court.pass(1), 0);
        Check.same("the present day", court.count(7), 1);
        Check.same("none lapses on its limit day", states(court), "1001");
        Check.same("two are heard", court.pass(1), 2);
        Check.same("one lapses behind its limit day", states(court), "2302");
        Check.same("the rest", court.pass(7), 0);
        Check.same("the present day", court.count(7), 9);
        Check.same("all", states(court), "2332");
        Check.same("the hearing stays told", court.hearing(0, 0), 1);
        Check.same("undo", court.undo(), 4);
        Check.same("undone as one", states(court), "2302");
    }

    private static void promise29PassLimits() {
        CourtCalendar court = Check.court("case a filed 99 slots 1 limit 60;");
        Check.fails("0 days", NO_ARGUMENT, court, () -> court.pass(0));
        Check.fails("-1 days", NO_ARGUMENT, court, () -> court.pass(-1));
        Check.fails("100 days", NO_ARGUMENT, court, () -> court.pass(100));
        Check.fails("too many days", NO_ARGUMENT, court, () -> court.pass(Integer.MAX_VALUE));
        for (int times = 1; times <= 6; times++) {
            Check.same("99 days", court.pass(99), 0);
            Check.same("the present day", court.count(7), 99 * times);
        }
        Check.fails("6 days on 594", NO_ARGUMENT, court, () -> court.pass(6));
        court.pass(5);
        Check.same("the present day", court.count(7), 599);
        Check.fails("1 day on 599", NO_ARGUMENT, court, () -> court.pass(1));
        Check.same("lapsed", court.matter(0, 5), 3);
    }

    private static void promise30Plan() {
        CourtCalendar court = Check.court("holiday 4;room r slots 0 7;officer o;officer p;case a filed 0 slots 2 limit 6;"
                + "case b filed 0 slots 2 limit 6;");
        Check.same("slack left", court.plan(0, 1, 3, 0, 1), 5);
        Check.same("planned", states(court), "10");
        Check.same("its slot", court.caseAt(0, 1, 4), 0);
        Check.same("anew, over its own hearing", court.plan(0, 1, 4, 0, 1), 5);
        Check.same("its slot", court.caseAt(0, 1, 3), -1);
        Check.same("anew", court.plan(0, 9, 4, 0, 0), 0);
        Check.same("no adjournment", court.matter(0, 7), 0);
        Check.same("the load moves", court.load(0) * 10 + court.load(1), 20);
        Check.same("the last but one day", court.plan(1, 8, 4, 0, 0), 1);
        Check.same("changes", court.count(9), 4);
    }

    private static void promise30PlanThrows() {
        CourtCalendar court = Check.court("room r slots 0 7;officer o;case a filed 0 slots 2 limit 6;"
                + "case b filed 0 slots 2 limit 6;case c filed 0 slots 2 limit 1;");
        court.plan(0, 3, 3, 0, 0);
        Check.fails("case -1", NO_INDEX, court, () -> court.plan(-1, 0, 0, 0, 0));
        Check.fails("case 3", NO_INDEX, court, () -> court.plan(3, 600, 8, 0, 0));
        Check.fails("room -1", NO_INDEX, court, () -> court.plan(1, 0, 0, -1, 0));
        Check.fails("room 1", NO_INDEX, court, () -> court.plan(1, 600, 0, 1, 0));
        Check.fails("officer -1", NO_INDEX, court, () -> court.plan(1, 0, 0, 0, -1));
        Check.fails("officer 1", NO_INDEX, court, () -> court.plan(1, 0, 9, 0, 1));
        Check.fails("day -1", NO_ARGUMENT, court, () -> court.plan(1, -1, 0, 0, 0));
        Check.fails("day 600", NO_ARGUMENT, court, () -> court.plan(1, 600, 0, 0, 0));
        Check.fails("slot -1", NO_ARGUMENT, court, () -> court.plan(1, 0, -1, 0, 0));
        Check.fails("slot 8", NO_ARGUMENT, court, () -> court.plan(1, 0, 8, 0, 0));
        Check.fails("a problem", NO_STATE, court, () -> court.plan(1, 3, 2, 0, 0));
        Check.fails("no slot", NO_STATE, court, () -> court.plan(1, 3, 7, 0, 0));
        Check.fails("a problem anew", NO_STATE, court, () -> court.plan(0, 9, 0, 0, 0));
        court.pass(4);
        Check.fails("heard", NO_STATE, court, () -> court.plan(0, 4, 0, 0, 0));
        Check.fails("lapsed", NO_STATE, court, () -> court.plan(2, 4, 0, 0, 0));
        Check.fails("lapsed, but day 600", NO_ARGUMENT, court, () -> court.plan(2, 600, 0, 0, 0));
    }

    private static void promise31PlanNext() {
        CourtCalendar court = Check.court("room r slots 2 3;officer o;officer p off 0 1;case a filed 0 slots 2 limit 2;"
                + "case b filed 0 slots 2 limit 2;case c filed 1 slots 1 limit 1;case d filed 0 slots 2 limit 2;");
        Check.same("first opening", court.planNext(1), 0);
        Check.same("next", court.planNext(0), 1);
        Check.same("its slot", court.hearing(0, 1), 2);
        Check.same("its officer", court.hearing(0, 3), 0);
        Check.same("the last", court.planNext(2), 2);
        Check.same("the one with less load", court.hearing(2, 3), 1);
        Check.fails("no opening", NO_ELEMENT, court, () -> court.planNext(3));
        Check.fails("planned", NO_STATE, court, () -> court.planNext(1));
        Check.fails("case -1", NO_INDEX, court, () -> court.planNext(-1));
        Check.fails("case 4", NO_INDEX, court, () -> court.planNext(4));
        court.pass(3);
        Check.same("heard and lapsed", states(court), "2223");
        Check.fails("heard", NO_STATE, court, () -> court.planNext(0));
        Check.fails("lapsed", NO_STATE, court, () -> court.planNext(3));
        Check.same("changes", court.count(9), 4);
    }

    private static void promise32PlanAll() {
        CourtCalendar court = Check.court("room r slots 0 3;officer o;officer p;officer q;"
                + "case a filed 0 slots 4 limit 2;case b filed 0 slots 4 limit 1;case c filed 0 slots 4 limit 2 custody;"
                + "case d filed 0 slots 2 limit 2;case e filed 0 slots 1 limit 9;case f filed 0 slots 1 limit 20;");
        court.plan(5, 14, 0, 0, 0);
        Check.same("planned", court.planAll(), 4);
        int[] days = {2, 0, 1, -1, 3, 14};
        int[] officers = {0, 1, 2, -1, 1, 0};
        for (int number = 0; number < days.length; number++) {
            Check.same("day of " + number, court.hearing(number, 0), days[number]);
            Check.same("officer of " + number, court.hearing(number, 3), officers[number]);
        }
        Check.same("one change", court.count(9), 2);
        Check.same("nothing is planned", court.planAll(), 0);
        Check.same("a change too", court.count(9), 3);
        Check.same("undo", court.undo(), 2);
        Check.same("undo", court.undo(), 1);
        Check.same("as before", states(court), "000001");
    }

    private static void promise33Adjourn() {
        CourtCalendar court = Check.court("room r slots 0 7;officer o;case a filed 0 slots 1 limit 5;lengthen 3 30;");
        int[] reasons = {1, 0, 2, 3, 1};
        int[] limitDays = {14, 28, 28, 70, 77};
        int[] lengthenings = {5, 15, 15, 45, 50};
        for (int i = 0; i < reasons.length; i++) {
            court.plan(0, 0, 0, 0, 0);
            Check.same("adjourn " + i, court.adjourn(0, reasons[i]), limitDays[i]);
            Check.same("waiting", states(court), "0");
            Check.same("lengthening", court.matter(0, 3), lengthenings[i]);
            Check.same("adjourned", court.matter(0, 7), i + 1);
            Check.same("no hearing", court.hearing(0, 0), -1);
        }
        court.plan(0, 0, 0, 0, 0);
        Check.fails("a sixth time", NO_STATE, court, () -> court.adjourn(0, 0));
        Check.same("still planned", states(court), "1");
        court.undo();
        court.undo();
        Check.same("undone", court.matter(0, 7), 4);
        Check.same("adjourned again", court.adjourn(0, 0), 84);
    }

    private static void promise33AdjournCap() {
        CourtCalendar court = Check.court("room r slots 0 7;officer o;case a filed 0 slots 1 limit 5 custody;"
                + "case b filed 0 slots 1 limit 5;");
        for (int i = 0; i < 3; i++) {
            court.plan(0, 0, 0, 0, 0);
            court.adjourn(0, 0);
            court.plan(1, 0, 0, 0, 0);
            court.adjourn(1, 0);
        }
        Check.same("the cap", court.matter(0, 3), 15);
        Check.same("no cap", court.matter(1, 3), 30);
        int[] growths = {10, 5, 0};
        for (int i = 0; i < 3; i++) {
            Check.same("growth", court.adjournment(0, i, 3), growths[i]);
            Check.same("growth", court.adjournment(1, i, 3), 10);
        }
        CourtCalendar none = Check.court("cap 0;room r slots 0 7;officer o;case a filed 0 slots 1 limit 5 custody;");
        none.planNext(0);
        Check.same("a cap of 0", none.adjourn(0, 0), 7);
        Check.same("adjourned all the same", none.matter(0, 7), 1);
    }

    private static void promise33AdjournThrows() {
        CourtCalendar court = Check.court("room r slots 0 7;officer o;case a filed 0 slots 1 limit 5;case b filed 0 slots 1 limit 1;");
        Check.fails("waiting", NO_STATE, court, () -> court.adjourn(0, 0));
        Check.fails("waiting, reason 4", NO_ARGUMENT, court, () -> court.adjourn(0, 4));
        Check.fails("waiting, reason -1", NO_ARGUMENT, court, () -> court.adjourn(0, -1));
        Check.fails("case 2, reason 4", NO_INDEX, court, () -> court.adjourn(2, 4));
        Check.fails("case -1", NO_INDEX, court, () -> court.adjourn(-1, 0));
        court.plan(0, 0, 0, 0, 0);
        court.pass(3);
        Check.fails("heard", NO_STATE, court, () -> court.adjourn(0, 0));
        Check.fails("lapsed", NO_STATE, court, () -> court.adjourn(1, 0));
    }

    private static void promise34Withdraw() {
        CourtCalendar court = Check.court("room r slots 0 7;officer o;witness w days 3 20;witness v days 0 99;"
                + "case a filed 0 slots 1 limit 15 needs w;case b filed 0 slots 1 limit 15 needs v;"
                + "case c filed 0 slots 1 limit 15 needs v needs w;case d filed 0 slots 1 limit 15 needs w;");
        court.plan(0, 8, 0, 0, 0);
        court.plan(1, 9, 0, 0, 0);
        court.plan(2, 9, 1, 0, 0);
        court.plan(3, 4, 0, 0, 0);
        Check.same("later than the window", court.withdraw(0, 22), 0);
        Check.same("the last day stays", court.witness(0, 1), 20);
        Check.same("a change too", court.count(9), 5);
        Check.same("the day before is the last one", court.withdraw(0, 21), 0);
        Check.same("the last day stays", court.witness(0, 1), 20);
        Check.same("two are taken away", court.withdraw(0, 8), 2);
        Check.same("the last day", court.witness(0, 1), 7);
        Check.same("states", states(court), "0101");
        Check.same("an adjournment", court.adjournment(2, 0, 1), 0);
        Check.same("of this day", court.adjournment(2, 0, 2), 9);
        Check.same("lengthened", court.matter(2, 3), 10);
        Check.same("once more, later", court.withdraw(0, 9), 0);
        Check.same("the last day stays", court.witness(0, 1), 7);
        Check.same("the others need another one", court.withdraw(1, 0), 1);
        Check.same("no days", court.witness(1, 1), -1);
        Check.same("before the first day", court.withdraw(0, 2), 1);
        Check.same("the last day", court.witness(0, 1), 1);
        Check.same("the first day", court.witness(0, 0), 3);
        court.pass(2);
        Check.fails("a day that is gone", NO_ARGUMENT, court, () -> court.withdraw(0, 1));
        Check.fails("day 600", NO_ARGUMENT, court, () -> court.withdraw(0, 600));
        Check.fails("witness 2", NO_INDEX, court, () -> court.withdraw(2, 600));
        Check.fails("witness -1", NO_INDEX, court, () -> court.withdraw(-1, 2));
        Check.same("the last of all days", court.withdraw(0, 599), 0);
    }

    private static void promise34WithdrawBeyondFive() {
        CourtCalendar court = Check.court("room r slots 0 7;officer o;witness w days 0 20;case a filed 0 slots 1 limit 5 needs w;");
        for (int i = 0; i < 5; i++) {
            court.planNext(0);
            court.adjourn(0, 2);
        }
        court.planNext(0);
        Check.same("taken away", court.withdraw(0, 0), 1);
        Check.same("waiting", states(court), "0");
        Check.same("no hearing", court.hearing(0, 3), -1);
        Check.same("without an adjournment", court.matter(0, 7), 5);
        Check.same("and not lengthened", court.matter(0, 3), 0);
    }

    private static void promise35AddHoliday() {
        CourtCalendar court = Check.court("room r slots 0 7;officer o;case a filed 0 slots 1 limit 5;"
                + "case b filed 0 slots 1 limit 5;case c filed 0 slots 1 limit 5;lengthen 3 2;");
        court.plan(0, 2, 0, 0, 0);
        court.plan(1, 3, 0, 0, 0);
        court.plan(2, 2, 1, 0, 0);
        Check.same("two are taken away", court.addHoliday(2), 2);
        Check.same("states", states(court), "010");
        Check.same("a holiday", court.isWorkingDay(2), false);
        Check.same("counted", court.count(4), 1);
        Check.same("the reason", court.adjournment(0, 0, 1), 3);
        Check.same("the day", court.adjournment(2, 0, 2), 2);
        Check.same("lengthened", court.matter(2, 4), 10);
        Check.same("later by the holiday alone", court.matter(1, 4), 8);
        Check.same("none is taken away", court.addHoliday(8), 0);
        Check.same("later", court.matter(1, 4), 9);
        Check.same("today", court.addHoliday(0), 0);
        for (int i = 0; i < 4; i++) {
            court.plan(0, 4, 0, 0, 0);
            court.adjourn(0, 3);
        }
        court.plan(0, 4, 0, 0, 0);
        Check.same("beyond five", court.addHoliday(4), 1);
        Check.same("waiting", court.matter(0, 5), 0);
        Check.same("without an adjournment", court.matter(0, 7), 5);
        Check.same("and not lengthened", court.matter(0, 3), 10);
        court.pass(3);
        court.undo();
        court.pass(99);
        Check.same("a heard case is not touched", court.matter(1, 5), 2);
        Check.same("nor is a day of it", court.addHoliday(599), 0);
    }

    private static void promise35AddHolidayThrows() {
        StringBuilder text = new StringBuilder("room r slots 0 7;");
        for (int i = 0; i < 19; i++) {
            text.append("holiday ").append(5 + i).append(';');
        }
        CourtCalendar court = Check.court(text.toString());
        Check.fails("a holiday", NO_STATE, court, () -> court.addHoliday(7));
        Check.fails("a weekend", NO_STATE, court, () -> court.addHoliday(26));
        Check.fails("day 600", NO_ARGUMENT, court, () -> court.addHoliday(600));
        Check.fails("day -1", NO_ARGUMENT, court, () -> court.addHoliday(-1));
        court.pass(1);
        Check.fails("a day that is gone", NO_ARGUMENT, court, () -> court.addHoliday(0));
        Check.same("the twentieth", court.addHoliday(1), 0);
        Check.fails("a 21st", NO_STATE, court, () -> court.addHoliday(2));
        Check.same("undo", court.undo(), 1);
        Check.same("the twentieth again", court.addHoliday(2), 0);
        Check.same("yesterday is none", court.isWorkingDay(1), true);
    }

    private static void promise36AddBar() {
        CourtCalendar court = Check.court("room r slots 0 7;officer o;officer p;case a filed 0 slots 1 limit 5;"
                + "case b filed 0 slots 1 limit 5;case c filed 0 slots 1 limit 5;bar o b;conflict a c;");
        court.plan(0, 0, 0, 0, 0);
        court.plan(1, 0, 1, 0, 1);
        Check.same("another officer has it", court.addBar(1, 0), false);
        Check.same("states", states(court), "110");
        Check.same("bars", court.count(5), 2);
        Check.same("this officer has it", court.addBar(0, 0), true);
        Check.same("states", states(court), "010");
        Check.same("the reason", court.adjournment(0, 0, 1), 1);
        Check.same("lengthened", court.matter(0, 3), 5);
        Check.same("waiting", court.addBar(0, 2), false);
        Check.same("barred", court.isBarred(0, 2), true);
        court.pass(1);
        Check.same("heard", court.matter(1, 5), 2);
        Check.same("a heard hearing stays", court.addBar(1, 1), false);
        Check.same("heard", court.matter(1, 5), 2);
        Check.fails("a bar of the text", NO_STATE, court, () -> court.addBar(0, 1));
        Check.fails("a new bar", NO_STATE, court, () -> court.addBar(0, 0));
        Check.fails("officer 2", NO_INDEX, court, () -> court.addBar(2, 0));
        Check.fails("officer -1", NO_INDEX, court, () -> court.addBar(-1, 0));
        Check.fails("case 3", NO_INDEX, court, () -> court.addBar(0, 3));
        Check.fails("case -1", NO_INDEX, court, () -> court.addBar(0, -1));
        CourtCalendar barred = Check.court("room r slots 0 7;officer o;case a filed 0 slots 1 limit 5;"
                + "case c filed 0 slots 1 limit 5;conflict a c;");
        barred.planNext(0);
        Check.same("a conflict is no bar", barred.addBar(0, 1), false);
        Check.same("bars", barred.count(5), 1);
    }

    private static void promise36AddBarBeyondFive() {
        CourtCalendar court = Check.court("room r slots 0 7;officer o;case a filed 0 slots 1 limit 5;");
        for (int i = 0; i < 5; i++) {
            court.planNext(0);
            court.adjourn(0, 2);
        }
        court.planNext(0);
        Check.same("taken away", court.addBar(0, 0), true);
        Check.same("waiting", states(court), "0");
        Check.same("without an adjournment", court.matter(0, 7), 5);
        Check.same("and not lengthened", court.matter(0, 3), 0);
    }

    private static CourtCalendar planned() {
        CourtCalendar court = Check.court("room r slots 0 7;officer o;officer p;witness w days 0 20;"
                + "case a filed 0 slots 1 limit 5 needs w;case b filed 0 slots 1 limit 5;case c filed 0 slots 1 limit 2;");
        court.plan(0, 1, 0, 0, 0);
        court.printDay(1);
        return court;
    }

    private static void undoes(String what, CourtCalendar court, Check.Call change) {
        String before = Check.digest(court);
        change.run();
        Check.same(what + " is one change", court.count(9), 2);
        Check.same("undo " + what, court.undo(), 1);
        Check.same("undone " + what, Check.digest(court), before);
    }

    private static void promise37UndoEachChange() {
        CourtCalendar court = planned();
        undoes("pass", court, () -> court.pass(9));
        undoes("plan", court, () -> court.plan(1, 1, 1, 0, 0));
        undoes("plan anew", court, () -> court.plan(0, 2, 1, 0, 1));
        undoes("planNext", court, () -> court.planNext(1));
        undoes("planAll", court, court::planAll);
        undoes("adjourn", court, () -> court.adjourn(0, 0));
        undoes("withdraw", court, () -> court.withdraw(0, 1));
        undoes("addHoliday", court, () -> court.addHoliday(1));
        undoes("addBar", court, () -> court.addBar(0, 0));
        court.undo();
        Check.fails("none is left", NO_STATE, court, court::undo);
        court.plan(0, 1, 0, 0, 0);
        court.adjourn(0, 0);
        court.plan(0, 2, 0, 0, 0);
        String before = Check.digest(court);
        court.pass(1);
        court.adjourn(0, 1);
        court.undo();
        court.undo();
        Check.same("the adjournments of before", Check.digest(court), before);
        court.undo();
        court.undo();
        court.adjourn(0, 2);
        Check.same("another one", court.adjournment(0, 0, 1), 2);
        court.undo();
        court.adjourn(0, 0);
        court.plan(0, 2, 0, 0, 0);
        Check.same("the same again", Check.digest(court), before);
    }

    private static void promise37UndoEight() {
        CourtCalendar court = new CourtCalendar();
        Check.fails("none", NO_STATE, court, court::undo);
        for (int changes = 1; changes <= 20; changes++) {
            court.pass(1);
            Check.same("changes that can be undone", court.count(9), Math.min(changes, 8));
        }
        for (int left = 7; left >= 0; left--) {
            Check.same("undo", court.undo(), left);
            Check.same("the day", court.count(7), 12 + left);
        }
        Check.fails("the ninth", NO_STATE, court, court::undo);
    }

    private static void promise37UndoneAreGone() {
        CourtCalendar court = new CourtCalendar();
        for (int changes = 1; changes <= 10; changes++) {
            court.pass(changes);
        }
        Check.same("undo", court.undo(), 7);
        Check.same("undo", court.undo(), 6);
        Check.same("the day", court.count(7), 36);
        court.pass(50);
        Check.same("count", court.count(9), 7);
        Check.same("undo", court.undo(), 6);
        Check.same("the day", court.count(7), 36);
        Check.same("undo", court.undo(), 5);
        Check.same("the day", court.count(7), 28);
        for (int left = 4; left >= 0; left--) {
            Check.same("undo", court.undo(), left);
        }
        Check.same("the day", court.count(7), 3);
        Check.fails("no more", NO_STATE, court, court::undo);
    }
}
