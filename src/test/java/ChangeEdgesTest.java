/** Promises 29 to 37: each boundary that the document names, by a test of its own; RefusedCallsTest has what is refused. */
public final class ChangeEdgesTest {
    private static final String ROOMS = Check.many("room # slots 0 7;", 3);
    private static final String OFFICERS = Check.many("officer #;", 6);

    public static void main(String[] args) {
        passHearsTheDaysThatPass();
        passLapsesBehindTheLimitDay();
        passHearsNoneToAll();
        passToTheLastDay();
        passAtOnceOrDayByDay();
        planLeavesSlackFromNoneToMost();
        planTakesEachPlace();
        planAnewIsNoAdjournment();
        planNextFromTheFirstToTheLastDay();
        planAllOfNone();
        planAllOfAll();
        planAllByUrgency();
        planAllLeavesTheOthers();
        adjournFromOneToFiveTimes();
        adjournUpToTheCap();
        withdrawCutsTheWindow();
        withdrawTakesFromTheDayOn();
        withdrawTakesNoneToAll();
        withdrawBeyondFiveAdjournments();
        addHolidayTakesTheDayAlone();
        addHolidayTakesNoneToAll();
        addHolidayMovesLimitDays();
        addHolidayBeyondFiveAdjournments();
        addBarOfEachState();
        addBarOfEveryPair();
        addBarBeyondFiveAdjournments();
        undoFromNoneToEight();
        undoOfEachChangeAsTheEighth();
        undoIsNoChange();
        whatIsNoChange();
        undoOfTheLastOfEachKind();
        Check.end("ChangeEdgesTest");
    }

    private static String cases(int number, String rest) {
        return Check.many("case # filed 0 " + rest + ";", number);
    }

    /** Each digit is the state of a case. */
    private static String states(CourtCalendar court) {
        StringBuilder all = new StringBuilder();
        for (int number = 0; number < court.count(3); number++) {
            all.append(court.matter(number, 5));
        }
        return all.toString();
    }

    /** All 12 cases have a hearing on this day. */
    private static CourtCalendar fullDay(int day, String rest) {
        CourtCalendar court = Check.court(ROOMS + OFFICERS + "witness w days 0 99;" + cases(12, "slots 1 limit 9" + rest));
        for (int number = 0; number < 12; number++) {
            court.plan(number, day, number % 8, number / 8, number / 8);
        }
        Check.same("all planned", court.count(11), 12);
        return court;
    }

    private static CourtCalendar adjournedFiveTimes(String rest) {
        CourtCalendar court = Check.court(ROOMS + OFFICERS + "witness w days 0 99;" + cases(2, "slots 1 limit 9" + rest) + "lengthen 2 1;");
        for (int times = 0; times < 5; times++) {
            court.planNext(1);
            court.adjourn(1, 2);
        }
        court.plan(1, 4, 7, 2, 5);
        return court;
    }

    /** The second case lost its hearing, and nothing else came of it. */
    private static void waitsWithoutAnAdjournment(CourtCalendar court) {
        Check.same("waiting", court.matter(1, 5), 0);
        Check.same("no hearing", court.hearing(1, 0), -1);
        Check.same("five adjournments", court.matter(1, 7), 5);
        Check.same("as long as before", court.matter(1, 3), 5);
        Check.same("no sixth", Check.outcome(() -> court.adjournment(1, 5, 0)), "IndexOutOfBoundsException");
        Check.same("the fifth stays", court.adjournment(1, 4, 1), 2);
    }

    // ---- promise 29

    private static void passHearsTheDaysThatPass() {
        for (int days = 1; days <= 10; days++) {
            CourtCalendar court = Check.court(ROOMS + OFFICERS + cases(9, "slots 1 limit 9"));
            int[] dayOf = {0, 1, 2, 3, 4, 7, 8, 9, 10};
            int due = 0;
            for (int number = 0; number < 9; number++) {
                court.plan(number, dayOf[number], 7, 2, 5);
                due += dayOf[number] < days ? 1 : 0;
            }
            Check.same("heard in " + days, court.pass(days), due);
            Check.same("the present day", court.count(7), days);
            for (int number = 0; number < 9; number++) {
                Check.same("state", court.matter(number, 5), dayOf[number] < days ? 2 : 1);
                Check.same("hearing stays", court.hearing(number, 0), dayOf[number]);
            }
        }
    }

    private static void passLapsesBehindTheLimitDay() {
        for (int days = 1; days <= 99; days++) {
            CourtCalendar court = Check.court("holiday 3;" + Check.many("case # filed 0 slots 1 limit 1%;", 10) + "case x filed 0 slots 1 limit 1;"
                + "case y filed 99 slots 1 limit 1;");
            court.pass(days);
            for (int number = 0; number < 12; number++) {
                Check.same("limit day " + court.matter(number, 4), court.matter(number, 5), court.matter(number, 4) < days ? 3 : 0);
            }
        }
    }

    private static void passHearsNoneToAll() {
        Check.same("no cases", new CourtCalendar().pass(1), 0);
        CourtCalendar court = fullDay(4, "");
        Check.same("none before the day", court.pass(4), 0);
        Check.same("all on the day", court.pass(1), 12);
        Check.same("none again", court.pass(99), 0);
        Check.same("all are heard", states(court), "222222222222");
        CourtCalendar lapsing = Check.court(cases(12, "slots 1 limit 1"));
        lapsing.pass(1);
        Check.same("none on the limit day", states(lapsing), "000000000000");
        Check.same("none is heard", lapsing.pass(1), 0);
        Check.same("all behind it", states(lapsing), "333333333333");
    }

    private static void passToTheLastDay() {
        CourtCalendar court = Check.court(cases(1, "slots 1 limit 60"));
        for (int times = 0; times < 6; times++) {
            court.pass(99);
        }
        Check.same("to the last day", court.pass(5), 0);
        Check.same("the present day", court.count(7), 599);
        court.undo();
        court.pass(4);
        Check.same("the last but one", court.count(7), 598);
        court.pass(1);
        Check.same("the last", court.count(7), 599);
    }

    private static void passAtOnceOrDayByDay() {
        for (int days = 1; days <= 8; days++) {
            CourtCalendar once = undecided();
            CourtCalendar each = undecided();
            int heard = 0;
            for (int day = 0; day < days; day++) {
                heard += each.pass(1);
            }
            Check.same("heard", once.pass(days), heard);
            Check.same("states after " + days, states(once), states(each));
        }
    }

    private static CourtCalendar undecided() {
        CourtCalendar court = Check.court("holiday 2;" + ROOMS + OFFICERS + cases(2, "slots 1 limit 1") + "case x filed 0 slots 1 limit 2;"
            + "case y filed 0 slots 1 limit 3;case z filed 5 slots 2 limit 1;case q filed 0 slots 1 limit 4;");
        court.plan(0, 1, 0, 0, 0);
        court.plan(3, 4, 0, 0, 0);
        court.plan(5, 3, 3, 1, 1);
        return court;
    }

    // ---- promises 30 and 31

    private static void planLeavesSlackFromNoneToMost() {
        CourtCalendar court = Check.court("holiday 3;" + ROOMS + OFFICERS + cases(12, "slots 1 limit 4"));
        int[] days = {7, 4, 2, 1, 0};
        for (int slack = 0; slack < days.length; slack++) {
            Check.same("slack left", court.plan(11, days[slack], 0, 0, 0), slack);
        }
        Check.same("the most told", Check.court(ROOMS + OFFICERS + cases(1, "slots 1 limit 60")).plan(0, 0, 0, 0, 0), 60);
        Check.same("the slack of promise 24 counts the day of the hearing", court.slack(11), 5);
    }

    private static void planTakesEachPlace() {
        for (int place = 0; place < 24 * 6; place++) {
            int slot = place % 8;
            int room = place / 8 % 3;
            int officer = place / 24;
            CourtCalendar court = Check.court(ROOMS + OFFICERS + cases(12, "slots 1 limit 9"));
            Check.same("plan", court.plan(11, 11, slot, room, officer), 0);
            int[] due = {11, slot, room, officer};
            for (int what = 0; what < 4; what++) {
                Check.same("hearing", court.hearing(11, what), due[what]);
            }
            Check.same("caseAt", court.caseAt(room, 11, slot), 11);
            Check.same("load", court.load(officer), 1);
            Check.same("one change", court.count(9), 1);
        }
    }

    private static void planAnewIsNoAdjournment() {
        CourtCalendar court = adjournedFiveTimes("");
        Check.same("anew", court.plan(1, 4, 7, 2, 5), 10);
        Check.same("anew", court.plan(1, 0, 0, 0, 0), 14);
        Check.same("five adjournments", court.matter(1, 7), 5);
        Check.same("the old place is free", court.caseAt(2, 4, 7), -1);
        Check.same("the old officer too", court.load(5), 0);
        Check.same("planned", court.matter(1, 5), 1);
        Check.same("changes", court.count(9), 8);
    }

    private static void planNextFromTheFirstToTheLastDay() {
        CourtCalendar court = Check.court("room r slots 7 7;officer o;" + cases(12, "slots 1 limit 9"));
        int[] days = {0, 1, 2, 3, 4, 7, 8, 9, 10, 11};
        for (int i = 0; i < 10; i++) {
            Check.same("the next day", court.planNext(11 - i), days[i]);
            Check.same("its state", court.matter(11 - i, 5), 1);
        }
        Check.same("no day is left", Check.outcome(() -> court.planNext(0)), "NoSuchElementException");
        Check.same("still waiting", court.matter(0, 5), 0);
        court.adjourn(11, 2);
        Check.same("a day again", court.planNext(0), 0);
    }

    // ---- promise 32

    private static void planAllOfNone() {
        CourtCalendar[] courts = {new CourtCalendar(), fullDay(0, ""), fullDay(0, ""), Check.court(cases(12, "slots 1 limit 1")),
            Check.court(cases(12, "slots 1 limit 9"))};
        courts[2].pass(1);
        courts[3].pass(2);
        for (CourtCalendar court : courts) {
            String before = states(court);
            int changes = court.count(9);
            Check.same("none", court.planAll(), 0);
            Check.same("as before", states(court), before);
            Check.same("a change all the same", court.count(9), Math.min(changes + 1, 8));
            Check.same("which can be undone", court.undo(), Math.min(changes, 7));
        }
    }

    private static void planAllOfAll() {
        CourtCalendar court = Check.court(ROOMS + OFFICERS + cases(12, "slots 4 limit 1"));
        Check.same("all", court.planAll(), 12);
        for (int number = 0; number < 12; number++) {
            int[] due = {number / 6, number / 3 % 2 * 4, number % 3, number % 6};
            for (int what = 0; what < 4; what++) {
                Check.same("hearing " + number + " " + what, court.hearing(number, what), due[what]);
            }
        }
        Check.same("one change", court.count(9), 1);
        Check.same("undone", court.undo(), 0);
        Check.same("all are waiting", court.count(10), 12);
    }

    private static void planAllByUrgency() {
        CourtCalendar court = Check.court("room r slots 0 0;officer o;" + Check.many("case # filed 0 slots 1 limit 4;", 9)
            + "case x filed 0 slots 1 limit 4 custody;case y filed 0 slots 1 limit 3;case z filed 0 slots 1 limit 5;");
        Check.same("five days, and one for the last case", court.planAll(), 6);
        int[] days = {2, 3, 4, -1, -1, -1, -1, -1, -1, 1, 0, 7};
        for (int number = 0; number < 12; number++) {
            Check.same("day of " + number, court.hearing(number, 0), days[number]);
        }
    }

    private static void planAllLeavesTheOthers() {
        CourtCalendar court = Check.court(ROOMS + OFFICERS + cases(2, "slots 1 limit 1") + "case x filed 0 slots 1 limit 9;case y filed 0 slots 2 limit 9;"
            + "bar a y;bar b y;bar c y;bar d y;bar e y;bar f y;case z filed 0 slots 1 limit 9;");
        court.plan(0, 1, 7, 2, 5);
        court.pass(2);
        court.plan(2, 4, 6, 1, 3);
        Check.same("one", court.planAll(), 1);
        Check.same("heard, lapsed, planned before, without an opening, planned now", states(court), "23101");
        Check.same("the planned one keeps its hearing", court.hearing(2, 0) * 100 + court.hearing(2, 1) * 10 + court.hearing(2, 3), 463);
        Check.same("at its first opening", court.hearing(4, 0) * 10 + court.hearing(4, 1), 20);
    }

    // ---- promise 33

    private static void adjournFromOneToFiveTimes() {
        for (int reason = 0; reason < 4; reason++) {
            CourtCalendar court = Check.court("lengthen 0 30;lengthen 1 1;lengthen 3 0;lengthen 2 7;" + ROOMS + OFFICERS + cases(12, "slots 1 limit 5"));
            int[] days = {30, 1, 7, 0};
            for (int times = 1; times <= 5; times++) {
                court.plan(11, 0, 0, 0, 0);
                int due = 5 + times * days[reason];
                Check.same("limit day", court.adjourn(11, reason), due / 5 * 7 + due % 5);
                Check.same("adjourned", court.matter(11, 7), times);
                Check.same("waiting", court.matter(11, 5), 0);
                Check.same("no hearing", court.caseAt(0, 0, 0), -1);
            }
            court.plan(11, 0, 0, 0, 0);
            int sixth = reason;
            Check.same("a sixth time", Check.outcome(() -> court.adjourn(11, sixth)), "IllegalStateException");
            Check.same("the others can be", court.planNext(0), 0);
            Check.same("the others can be", Check.outcome(() -> court.adjourn(0, sixth)) instanceof Integer, true);
        }
    }

    private static void adjournUpToTheCap() {
        int[][] rows = {{10, 10, 9, 9}, {10, 10, 10, 10}, {10, 10, 11, 11}, {10, 0, 0, 0}, {30, 30, 60, 60}, {0, 30, 0, 0}, {0, 1, 60, 1}};
        for (int[] row : rows) {
            CourtCalendar court = Check.court("lengthen 0 " + row[0] + ";lengthen 1 " + row[1] + ";cap " + row[2] + ";" + ROOMS + OFFICERS
                + cases(2, "slots 1 limit 5 custody") + "case x filed 0 slots 1 limit 5;");
            for (int number = 0; number < 3; number++) {
                court.planNext(number);
                court.adjourn(number, 0);
                court.planNext(number);
                court.adjourn(number, 1);
            }
            int all = row[0] + row[1];
            Check.same("custody", court.matter(0, 3), Math.min(all, row[2]));
            Check.same("custody", court.matter(1, 3), Math.min(all, row[2]));
            Check.same("no custody", court.matter(2, 3), all);
            Check.same("grown first", court.adjournment(0, 0, 3), Math.min(row[0], row[2]));
            Check.same("grown then", court.adjournment(0, 1, 3), Math.min(all, row[2]) - Math.min(row[0], row[2]));
            Check.same("grown then, no custody", court.adjournment(2, 1, 3), row[1]);
        }
    }

    // ---- promise 34

    private static void withdrawCutsTheWindow() {
        int[] days = {0, 1, 3, 4, 5, 9, 10, 11, 12, 599};
        int[] due = {-1, 0, 2, 3, 4, 8, 9, 10, 10, 10};
        for (int i = 0; i < days.length; i++) {
            CourtCalendar court = Check.court(Check.many("witness # days 4 10;", 12));
            Check.same("no hearing", court.withdraw(11, days[i]), 0);
            Check.same("last day after " + days[i], court.witness(11, 1), due[i]);
            Check.same("first day", court.witness(11, 0), 4);
            Check.same("another one's", court.witness(10, 1), 10);
            Check.same("a change", court.count(9), 1);
            court.withdraw(11, 599);
            Check.same("it is not later again", court.witness(11, 1), due[i]);
            court.undo();
            court.undo();
            Check.same("undone", court.witness(11, 1), 10);
        }
        CourtCalendar late = Check.court("witness w days 599 599;");
        late.withdraw(0, 599);
        Check.same("the last of all days", late.witness(0, 1), 598);
    }

    private static void withdrawTakesFromTheDayOn() {
        int[] hearings = {0, 3, 4, 7, 8};
        for (int day = 0; day <= 9; day++) {
            CourtCalendar court = Check.court(ROOMS + OFFICERS + "witness w days 0 599;witness v days 0 599;"
                + cases(5, "slots 1 limit 9 needs w") + "case x filed 0 slots 1 limit 9 needs v;case y filed 0 slots 1 limit 9;"
                + "case z filed 0 slots 1 limit 9 needs v needs w;");
            int due = 0;
            for (int number = 0; number < 5; number++) {
                court.plan(number, hearings[number], 0, 0, 0);
                due += hearings[number] >= day ? 1 : 0;
            }
            court.plan(5, 9, 1, 1, 1);
            court.plan(6, 9, 2, 1, 1);
            court.plan(7, 9, 3, 1, 1);
            Check.same("taken away", court.withdraw(0, day), due + 1);
            for (int number = 0; number < 5; number++) {
                Check.same("state of " + number, court.matter(number, 5), hearings[number] >= day ? 0 : 1);
                Check.same("adjourned", court.matter(number, 7), hearings[number] >= day ? 1 : 0);
            }
            Check.same("who need another one or none", states(court).substring(5), "110");
            Check.same("the reason", court.adjournment(7, 0, 1), 0);
            Check.same("lengthened", court.adjournment(7, 0, 3), 10);
            Check.same("the day of the hearing", court.adjournment(7, 0, 2), 9);
        }
    }

    private static void withdrawTakesNoneToAll() {
        CourtCalendar court = fullDay(4, "");
        Check.same("none needs it", court.withdraw(0, 0), 0);
        CourtCalendar needed = Check.court(ROOMS + OFFICERS + Check.many("witness # days 0 99;", 12) + cases(12, "slots 1 limit 9 needs l"));
        for (int number = 0; number < 12; number++) {
            needed.plan(number, number < 8 ? 0 : 1, number % 8, 0, 0);
        }
        Check.same("all", needed.withdraw(11, 0), 12);
        Check.same("all are waiting", needed.count(10), 12);
        needed.undo();
        Check.same("it was one change", needed.count(11), 12);
        needed.pass(1);
        Check.same("heard ones stay", needed.withdraw(11, 1), 4);
        Check.same("heard ones stay", states(needed), "222222220000");
        Check.same("no window", needed.witness(11, 1), 0);
    }

    private static void withdrawBeyondFiveAdjournments() {
        CourtCalendar court = adjournedFiveTimes(" needs w");
        court.plan(0, 4, 0, 0, 0);
        Check.same("both are taken away", court.withdraw(0, 4), 2);
        waitsWithoutAnAdjournment(court);
        Check.same("the other one is adjourned", court.matter(0, 7), 1);
        Check.same("for the reason 0", court.matter(0, 3), 10);
    }

    // ---- promise 35

    private static void addHolidayTakesTheDayAlone() {
        for (int day : new int[] {0, 1, 3, 4, 7, 599}) {
            CourtCalendar court = Check.court("lengthen 3 3;" + ROOMS + OFFICERS + cases(6, "slots 1 limit 9"));
            int[] hearings = {0, 1, 2, 3, 4, 7};
            for (int number = 0; number < 6; number++) {
                court.plan(number, hearings[number], 7, 2, 5);
            }
            Check.same("taken away", court.addHoliday(day), day == 599 ? 0 : 1);
            Check.same("no working day", court.isWorkingDay(day), false);
            Check.same("a holiday", court.count(4), 1);
            for (int number = 0; number < 6; number++) {
                boolean taken = hearings[number] == day;
                Check.same("state", court.matter(number, 5), taken ? 0 : 1);
                Check.same("adjourned", court.matter(number, 7), taken ? 1 : 0);
                Check.same("lengthened", court.matter(number, 3), taken ? 3 : 0);
                if (taken) {
                    Check.same("the reason", court.adjournment(number, 0, 1), 3);
                    Check.same("the day", court.adjournment(number, 0, 2), day);
                }
            }
        }
    }

    private static void addHolidayTakesNoneToAll() {
        CourtCalendar court = fullDay(4, "");
        Check.same("the day before", court.addHoliday(3), 0);
        Check.same("the day after", court.addHoliday(7), 0);
        Check.same("all", court.addHoliday(4), 12);
        Check.same("all are waiting", court.count(10), 12);
        Check.same("one change", court.undo(), 7);
        Check.same("all are planned", court.count(11), 12);
        court.pass(4);
        Check.same("on the present day", court.addHoliday(4), 12);
        court.undo();
        court.pass(1);
        Check.same("heard ones stay", court.count(12), 12);
    }

    private static void addHolidayMovesLimitDays() {
        CourtCalendar court = Check.court(cases(11, "slots 1 limit 4") + "case l filed 3 slots 1 limit 1;");
        court.addHoliday(0);
        Check.same("not the day of filing", court.matter(0, 4), 4);
        court.addHoliday(3);
        Check.same("a day before it", court.matter(0, 4), 7);
        Check.same("its day of filing", court.matter(11, 4), 4);
        court.addHoliday(7);
        Check.same("the limit day", court.matter(0, 4), 8);
        court.addHoliday(9);
        Check.same("a day behind it", court.matter(0, 4), 8);
        court.addHoliday(4);
        Check.same("both", court.matter(0, 4) * 10 + court.matter(11, 4), 108);
        court.pass(9);
        Check.same("lapsed behind a limit day alone", states(court), "000000000003");
        court.addHoliday(10);
        Check.same("lapsed stays", states(court), "000000000003");
    }

    private static void addHolidayBeyondFiveAdjournments() {
        CourtCalendar court = adjournedFiveTimes("");
        court.plan(0, 4, 0, 0, 0);
        Check.same("both are taken away", court.addHoliday(4), 2);
        waitsWithoutAnAdjournment(court);
        Check.same("the other one is adjourned", court.matter(0, 7), 1);
        Check.same("for the reason 3", court.adjournment(0, 0, 1), 3);
    }

    // ---- promise 36

    private static void addBarOfEachState() {
        CourtCalendar court = Check.court(ROOMS + OFFICERS + cases(2, "slots 1 limit 1") + "case x filed 0 slots 1 limit 9;case y filed 0 slots 1 limit 9;");
        court.plan(0, 1, 7, 2, 5);
        court.pass(2);
        court.plan(2, 4, 7, 2, 5);
        Check.same("states", states(court), "2310");
        Check.same("heard", court.addBar(5, 0), false);
        Check.same("lapsed", court.addBar(5, 1), false);
        Check.same("planned with another one", court.addBar(4, 2), false);
        Check.same("waiting", court.addBar(5, 3), false);
        Check.same("states", states(court), "2310");
        Check.same("the heard hearing stays", court.hearing(0, 3), 5);
        Check.same("planned with this one", court.addBar(5, 2), true);
        Check.same("states", states(court), "2300");
        Check.same("the reason", court.adjournment(2, 0, 1), 1);
        Check.same("lengthened", court.adjournment(2, 0, 3), 5);
        Check.same("made on", court.adjournment(2, 0, 0), 2);
        Check.same("bars", court.count(5), 5);
        Check.same("one change", court.undo(), 7);
        Check.same("the hearing again", court.hearing(2, 3), 5);
        Check.same("no bar", court.isBarred(5, 2), false);
    }

    private static void addBarOfEveryPair() {
        CourtCalendar court = Check.court(ROOMS + OFFICERS + cases(12, "slots 1 limit 9"));
        for (int officer = 0; officer < 6; officer++) {
            for (int number = 0; number < 12; number++) {
                Check.same("addBar", court.addBar(officer, number), false);
                Check.same("barred", court.isBarred(officer, number), true);
                Check.same("bars", court.count(5), officer * 12 + number + 1);
                int pair = officer;
                int of = number;
                Check.same("once more", Check.outcome(() -> court.addBar(pair, of)), "IllegalStateException");
            }
        }
        Check.same("no officer is left", court.fewestOfficers(), -1);
        Check.same("none can be planned", court.planAll(), 0);
    }

    private static void addBarBeyondFiveAdjournments() {
        CourtCalendar court = adjournedFiveTimes("");
        Check.same("another officer", court.addBar(4, 1), false);
        Check.same("still planned", court.matter(1, 5), 1);
        Check.same("taken away without an adjournment", court.addBar(5, 1), true);
        waitsWithoutAnAdjournment(court);
    }

    // ---- promise 37

    private static void undoFromNoneToEight() {
        for (int changes = 0; changes <= 12; changes++) {
            CourtCalendar court = new CourtCalendar();
            for (int i = 0; i < changes; i++) {
                court.pass(i + 1);
            }
            int left = Math.min(changes, 8);
            Check.same("can be undone", court.count(9), left);
            for (int i = changes; left > 0; i--) {
                left--;
                Check.same("still can be", court.undo(), left);
                Check.same("counted", court.count(9), left);
                Check.same("the present day", court.count(7), i * (i - 1) / 2);
            }
            Check.same("no more", Check.outcome(court::undo), "IllegalStateException");
            Check.same("the present day stays", court.count(7), changes > 8 ? (changes - 8) * (changes - 7) / 2 : 0);
        }
    }

    private static CourtCalendar busy() {
        CourtCalendar court = Check.court(ROOMS + OFFICERS + Check.many("witness # days 0 99;", 12) + cases(12, "slots 1 limit 9 needs l"));
        court.plan(11, 2, 7, 2, 5);
        court.plan(10, 3, 7, 2, 5);
        return court;
    }

    /** Seven changes follow, so that this one is the oldest that can be undone; one more, and it cannot. */
    private static void undoOfEachChangeAsTheEighth() {
        Check.Asking[] changes = {(court, x) -> court.pass(4), (court, x) -> court.plan(11, 4, 0, 0, 0), (court, x) -> court.planNext(0),
            (court, x) -> court.planAll(), (court, x) -> court.adjourn(11, 1), (court, x) -> court.withdraw(11, 0),
            (court, x) -> court.addHoliday(2), (court, x) -> court.addBar(5, 11)};
        for (Check.Asking change : changes) {
            CourtCalendar court = busy();
            String before = Check.digest(court).replace(" 15 2 ", " 15 0 ");
            change.ask(court, 0);
            String after = Check.digest(court).replace(" 15 3 ", " 15 0 ");
            Check.same("it changes something", before.equals(after), false);
            for (int i = 1; i <= 7; i++) {
                court.addHoliday(21 + 7 * i);
            }
            for (int left = 7; left >= 0; left--) {
                Check.same("undo", court.undo(), left);
            }
            Check.same("as before", Check.digest(court), before);
            change.ask(court, 0);
            for (int i = 1; i <= 8; i++) {
                court.addHoliday(21 + 7 * i);
            }
            for (int left = 7; left >= 0; left--) {
                Check.same("undo", court.undo(), left);
            }
            Check.same("as after it", Check.digest(court), after);
            Check.same("no more", Check.outcome(court::undo), "IllegalStateException");
        }
    }

    private static void undoIsNoChange() {
        CourtCalendar court = busy();
        court.undo();
        Check.same("the one before", court.undo(), 0);
        Check.same("nothing is planned", court.count(11), 0);
        court.pass(1);
        Check.same("a new change", court.count(9), 1);
        Check.same("undone", court.undo(), 0);
        Check.same("the present day", court.count(7), 0);
    }

    private static void whatIsNoChange() {
        CourtCalendar court = busy();
        Check.Call[] calls = {() -> court.feed(0, 0, 0, 0, 0), () -> court.truncate(0), court::saveState, () -> court.printDay(2), court::plannable,
            court::keyOfficer, () -> court.lapsesIn(99), () -> court.find(0), () -> court.plan(11, 5, 0, 0, 0), () -> court.planNext(11),
            () -> court.pass(0), () -> court.adjourn(0, 0), () -> court.withdraw(12, 0), () -> court.addHoliday(5), () -> court.addBar(6, 0),
            () -> court.opening(0, 0), court::fewestOfficers};
        for (Check.Call call : calls) {
            Check.outcome(call);
            Check.same("no change", court.count(9), 2);
        }
        Check.same("the latest one is undone", court.undo(), 1);
        Check.same("the latest one is undone", states(court), "000000000001");
    }

    private static void undoOfTheLastOfEachKind() {
        CourtCalendar court = busy();
        String before = Check.digest(court);
        court.adjourn(11, 0);
        court.addBar(5, 11);
        court.withdraw(11, 1);
        court.plan(11, 0, 0, 0, 0);
        court.addHoliday(599);
        court.pass(3);
        for (int left = 7; left >= 2; left--) {
            Check.same("undo", court.undo(), left);
        }
        Check.same("as before", Check.digest(court), before);
    }
}
