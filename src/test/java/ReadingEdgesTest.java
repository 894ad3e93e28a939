/** Promises 9 to 28: each boundary that the document names, by a test of its own; RefusedCallsTest has the parameters' ranges. */
public final class ReadingEdgesTest {
    private static final String LETTERS = "abcdefghijkl";

    public static void main(String[] args) {
        daysOfAWeek();
        eachDayAsTheOnlyHoliday();
        workingDaysOfEachSpan();
        plannedCasesOfAWitness();
        windowAsItIsNow();
        offAtMostThreeTimes();
        barOfOneOfficerForOneCase();
        barredWhileThereIsAHearing();
        loadFromNoneToMost();
        limitDayOfEachCase();
        limitDayOfTheMostLengthened();
        lengtheningUpToTheCap();
        statesOfACase();
        conflictsOfACase();
        hearingFromLeastToMost();
        adjournmentsFromFirstToFifth();
        slotsThatAHearingTakes();
        hearingsOfAFullDay();
        problem1();
        problem2();
        problem3();
        problem4();
        problem5();
        problem6();
        problem7();
        problem8();
        problem9();
        ownHearingIsNoProblem();
        smallestProblemCounts();
        openingNowhere();
        openingOnTheLastDay();
        openingInOrder();
        openingOfTheLastRoomAndOfficer();
        openingAmongWitnesses();
        openingWithTheLeastLoad();
        openDaysFromNoneToMost();
        urgencyInOrder();
        slackFromNoneToMost();
        eligibleFromNoneToAll();
        fewestOfficersFromNoneToAll();
        fewestOfficersOfNothing();
        meanSlackFromNoneToAll();
        usageFromNoneToAll();
        usageOfASpan();
        Check.end("ReadingEdgesTest");
    }

    private static String rooms(int number) {
        return Check.many("room # slots 0 7;", number);
    }

    private static String officers(int number) {
        return Check.many("officer #;", number);
    }

    private static String cases(int number, String rest) {
        return Check.many("case # filed 0 " + rest + ";", number);
    }

    /** Plans a case at the place of this number, of which none hinders another one: 24 of each day. */
    private static void place(CourtCalendar court, int number, int place) {
        Check.same("plan", Check.outcome(() -> court.plan(number, place / 24, place % 8, place / 8 % 3, place / 8 % 3)) instanceof Integer, true);
    }

    // ---- promises 9 and 10

    private static void daysOfAWeek() {
        CourtCalendar court = Check.court("");
        for (int day = 0; day < 600; day++) {
            Check.same("isWorkingDay " + day, court.isWorkingDay(day), day % 7 <= 4);
        }
    }

    private static void eachDayAsTheOnlyHoliday() {
        for (int holiday = 0; holiday < 600; holiday++) {
            CourtCalendar told = Check.court("holiday " + holiday + ";");
            CourtCalendar added = new CourtCalendar();
            if (holiday % 7 <= 4) {
                added.addHoliday(holiday);
            }
            for (int day = 0; day < 600; day++) {
                Check.same("holiday " + holiday + ", day " + day, told.isWorkingDay(day), day % 7 <= 4 && day != holiday);
                Check.same("added " + holiday + ", day " + day, added.isWorkingDay(day), day % 7 <= 4 && day != holiday);
            }
        }
    }

    private static void workingDaysOfEachSpan() {
        CourtCalendar court = Check.court("holiday 0;holiday 5;holiday 31;holiday 32;holiday 599;");
        int[] before = new int[601];
        for (int day = 0; day < 600; day++) {
            boolean works = day % 7 <= 4 && day != 0 && day != 31 && day != 32 && day != 599;
            before[day + 1] = before[day] + (works ? 1 : 0);
        }
        for (int from = 0; from < 600; from++) {
            for (int to = from; to < 600; to += to > from + 20 && to < 590 ? 7 : 1) {
                Check.same("workingDays " + from + " " + to, court.workingDays(from, to), before[to + 1] - before[from]);
            }
        }
        Check.same("all days", Check.court("").workingDays(0, 599), 430);
    }

    // ---- promises 12 to 15

    private static void plannedCasesOfAWitness() {
        CourtCalendar court = Check.court(rooms(3) + officers(3) + "witness a days 0 9;witness b days 0 9;"
            + cases(12, "slots 1 limit 9 needs b"));
        for (int number = 0; number < 12; number++) {
            Check.same("planned", court.witness(1, 4), number);
            court.plan(number, number / 8, number % 8, 0, 0);
        }
        Check.same("all", court.witness(1, 4), 12);
        Check.same("of the other witness", court.witness(0, 4), 0);
        court.adjourn(11, 2);
        Check.same("an adjourned one is not planned", court.witness(1, 4), 11);
        court.pass(1);
        Check.same("a heard one is not planned", court.witness(1, 4), 3);
        court.pass(30);
        Check.same("none", court.witness(1, 4), 0);
    }

    private static void windowAsItIsNow() {
        CourtCalendar court = Check.court(Check.many("witness # days 3 9 slots 2 5;", 12));
        court.withdraw(11, 0);
        court.withdraw(10, 4);
        court.withdraw(9, 10);
        int[] last = {3, 9, 9, 9, 9, 9, 9, 9, 9, 9, 3, -1};
        for (int witness = 1; witness < 12; witness++) {
            int[] due = {3, last[witness], 2, 5, 0};
            for (int what = 0; what < 5; what++) {
                Check.same("witness " + witness + " " + what, court.witness(witness, what), due[what]);
            }
        }
    }

    private static void offAtMostThreeTimes() {
        CourtCalendar court = Check.court(officers(5) + "officer z off 10 12 off 0 0 off 598 599;");
        for (int day = 0; day < 600; day++) {
            Check.same("off on " + day, court.isOff(5, day), day == 0 || day >= 10 && day <= 12 || day >= 598);
            Check.same("never off", court.isOff(4, day), false);
        }
    }

    private static void barOfOneOfficerForOneCase() {
        for (int officer = 0; officer < 6; officer++) {
            for (int number = 0; number < 12; number++) {
                String pair = LETTERS.charAt(officer) + " " + LETTERS.charAt(number);
                CourtCalendar told = Check.court(officers(6) + cases(12, "slots 1 limit 9") + "bar " + pair + ";");
                CourtCalendar added = Check.court(officers(6) + cases(12, "slots 1 limit 9"));
                Check.same("no hearing is taken away", added.addBar(officer, number), false);
                for (int place = 0; place < 72; place++) {
                    boolean due = place == officer * 12 + number;
                    Check.same("told " + pair, told.isBarred(place / 12, place % 12), due);
                    Check.same("added " + pair, added.isBarred(place / 12, place % 12), due);
                }
                Check.same("bars", told.count(5) + added.count(5), 2);
            }
        }
    }

    private static void barredWhileThereIsAHearing() {
        CourtCalendar court = Check.court(rooms(1) + officers(6) + cases(12, "slots 1 limit 9") + "conflict l k;conflict a l;");
        Check.same("waiting", court.isBarred(5, 10), false);
        court.plan(11, 0, 7, 0, 5);
        Check.same("planned", court.isBarred(5, 10), true);
        Check.same("planned", court.isBarred(5, 0), true);
        Check.same("not the case itself", court.isBarred(5, 11), false);
        Check.same("not in conflict", court.isBarred(5, 1), false);
        Check.same("another officer", court.isBarred(4, 10), false);
        court.plan(11, 0, 7, 0, 4);
        Check.same("the officer of before", court.isBarred(5, 10), false);
        Check.same("planned anew", court.isBarred(4, 10), true);
        court.pass(1);
        Check.same("heard", court.isBarred(4, 10), true);
        court.undo();
        court.adjourn(11, 0);
        Check.same("adjourned", court.isBarred(4, 10), false);
        court.pass(99);
        Check.same("lapsed", court.isBarred(4, 10), false);
    }

    private static void loadFromNoneToMost() {
        CourtCalendar court = Check.court(rooms(1) + officers(6) + cases(12, "slots 4 limit 9"));
        for (int number = 0; number < 12; number++) {
            Check.same("load", court.load(5), 4 * number);
            court.plan(number, number / 2 + (number < 10 ? 0 : 2), number % 2 * 4, 0, 5);
        }
        Check.same("the most", court.load(5), 48);
        Check.same("of another one", court.load(4), 0);
        court.pass(4);
        Check.same("heard and planned", court.load(5), 48);
        court.plan(11, 7, 4, 0, 4);
        Check.same("planned anew with another one", court.load(5) * 100 + court.load(4), 4404);
        court.adjourn(10, 0);
        Check.same("adjourned", court.load(5), 40);
    }

    // ---- promise 16

    private static int limitDay(int filed, int number, int... holidays) {
        int day = filed;
        for (int left = number; left > 0;) {
            day++;
            boolean works = day % 7 <= 4;
            for (int holiday : holidays) {
                works &= day != holiday;
            }
            left -= works ? 1 : 0;
        }
        return day;
    }

    private static void limitDayOfEachCase() {
        for (int filed = 0; filed <= 99; filed++) {
            for (int limit = 1; limit <= 60; limit++) {
                CourtCalendar court = Check.court("holiday 1;holiday 31;holiday 32;holiday 101;case a filed " + filed + " slots 1 limit " + limit + ";");
                Check.same("limit day of " + filed + " " + limit, court.matter(0, 4), limitDay(filed, limit, 1, 31, 32, 101));
            }
        }
    }

    /** As late as a limit day can be: all 20 holidays before it, and five lengthenings of 30 days. */
    private static void limitDayOfTheMostLengthened() {
        StringBuilder text = new StringBuilder("room r slots 0 7;officer o;case a filed 99 slots 1 limit 60;lengthen 3 30;");
        int[] holidays = new int[20];
        for (int i = 0; i < 20; i++) {
            holidays[i] = 101 + 7 * i;
            text.append("holiday ").append(holidays[i]).append(';');
        }
        CourtCalendar court = Check.court(text.toString());
        for (int times = 1; times <= 5; times++) {
            Check.same("planNext", court.planNext(0), 99);
            Check.same("limit day", court.adjourn(0, 3), limitDay(99, 60 + 30 * times, holidays));
            Check.same("lengthening", court.matter(0, 3), 30 * times);
        }
        Check.same("limit day", court.matter(0, 4), 421);
        Check.same("on the limit day", court.problem(0, 421, 0, 0, 0), 0);
        Check.same("behind it", court.problem(0, 424, 0, 0, 0), 2);
        Check.same("slack", court.slack(0), court.workingDays(0, 421));
        Check.same("open days", court.openDays(0), court.workingDays(99, 421));
        for (int times = 0; times < 4; times++) {
            court.pass(99);
        }
        court.pass(25);
        Check.same("not lapsed on the limit day", court.matter(0, 5), 0);
        Check.same("one day of slack", court.slack(0), 1);
        Check.same("planned on it", court.planNext(0), 421);
        court.undo();
        court.pass(1);
        Check.same("lapsed", court.matter(0, 5), 3);
    }

    private static void lengtheningUpToTheCap() {
        for (int cap = 0; cap <= 60; cap++) {
            CourtCalendar court = Check.court("cap " + cap + ";lengthen 0 7;room r slots 0 7;officer o;case a filed 0 slots 1 limit 9 custody;"
                + "case b filed 0 slots 1 limit 9;");
            for (int times = 1; times <= 5; times++) {
                court.planNext(0);
                court.adjourn(0, 0);
                court.planNext(1);
                court.adjourn(1, 0);
                Check.same("custody, cap " + cap, court.matter(0, 3), Math.min(7 * times, cap));
                Check.same("grown by", court.adjournment(0, times - 1, 3), Math.min(7 * times, cap) - Math.min(7 * times - 7, cap));
                Check.same("no custody, cap " + cap, court.matter(1, 3), 7 * times);
                Check.same("limit day", court.matter(0, 4), limitDay(0, 9 + Math.min(7 * times, cap)));
            }
        }
    }

    private static void statesOfACase() {
        CourtCalendar court = Check.court(rooms(1) + officers(1) + cases(12, "slots 1 limit 1"));
        Check.same("waiting", court.matter(11, 5), 0);
        court.plan(11, 1, 7, 0, 0);
        Check.same("planned", court.matter(11, 5), 1);
        court.pass(1);
        Check.same("planned on its day", court.matter(11, 5), 1);
        Check.same("waiting on its limit day", court.matter(10, 5), 0);
        court.pass(1);
        Check.same("heard", court.matter(11, 5), 2);
        Check.same("lapsed", court.matter(10, 5), 3);
        court.pass(99);
        Check.same("still heard", court.matter(11, 5), 2);
        Check.same("still lapsed", court.matter(10, 5), 3);
    }

    private static void conflictsOfACase() {
        CourtCalendar court = Check.court(cases(12, "slots 1 limit 1") + Check.many("conflict l #;", 11));
        Check.same("with all others", court.matter(11, 9), 11);
        for (int number = 0; number < 11; number++) {
            Check.same("with one", court.matter(number, 9), 1);
        }
        Check.same("conflicts", court.count(6), 11);
        Check.same("none", Check.court(cases(1, "slots 1 limit 1")).matter(0, 9), 0);
    }

    // ---- promises 17 to 19

    private static void hearingFromLeastToMost() {
        CourtCalendar court = Check.court(rooms(3) + officers(6) + cases(11, "slots 1 limit 1") + "case l filed 99 slots 1 limit 60;");
        court.plan(0, 0, 0, 0, 0);
        court.plan(11, limitDay(99, 60), 7, 2, 5);
        int[][] due = {{0, 0, 0, 0}, {limitDay(99, 60), 7, 2, 5}};
        for (int what = 0; what < 4; what++) {
            Check.same("the least", court.hearing(0, what), due[0][what]);
            Check.same("the most", court.hearing(11, what), due[1][what]);
            Check.same("none", court.hearing(5, what), -1);
        }
        court.pass(2);
        for (int what = 0; what < 4; what++) {
            Check.same("heard", court.hearing(0, what), 0);
            Check.same("lapsed", court.hearing(5, what), -1);
        }
        court.adjourn(11, 0);
        for (int what = 0; what < 4; what++) {
            Check.same("adjourned", court.hearing(11, what), -1);
        }
    }

    private static void adjournmentsFromFirstToFifth() {
        CourtCalendar court = Check.court(rooms(1) + officers(1) + cases(12, "slots 1 limit 30") + "lengthen 2 1;lengthen 3 30;");
        int[] reasons = {3, 0, 2, 1, 3};
        int[] grown = {30, 10, 1, 5, 30};
        int[] days = {0, 9, 14, 15, 42};
        for (int i = 0; i < 5; i++) {
            court.plan(11, days[i], i, 0, 0);
            court.adjourn(11, reasons[i]);
            court.pass(1);
        }
        for (int i = 0; i < 5; i++) {
            int[] due = {i, reasons[i], days[i], grown[i]};
            for (int what = 0; what < 4; what++) {
                Check.same("adjournment " + i + " " + what, court.adjournment(11, i, what), due[what]);
            }
        }
        Check.same("adjourned", court.matter(11, 7), 5);
        Check.same("lengthening", court.matter(11, 3), 76);
    }

    private static void slotsThatAHearingTakes() {
        for (int slots = 1; slots <= 4; slots++) {
            for (int first = 0; first + slots <= 8; first++) {
                CourtCalendar court = Check.court(rooms(3) + officers(1) + cases(1, "slots " + slots + " limit 9"));
                court.plan(0, 4, first, 1, 0);
                for (int place = 0; place < 24; place++) {
                    boolean taken = place / 8 == 1 && place % 8 >= first && place % 8 < first + slots;
                    Check.same("caseAt", court.caseAt(place / 8, 4, place % 8), taken ? 0 : -1);
                    Check.same("the day before", court.caseAt(place / 8, 3, place % 8), -1);
                    Check.same("the day after", court.caseAt(place / 8, 5, place % 8), -1);
                }
                court.pass(5);
                Check.same("heard", court.caseAt(1, 4, first) + court.caseAt(1, 4, first + slots - 1), 0);
            }
        }
    }

    private static void hearingsOfAFullDay() {
        CourtCalendar court = Check.court(rooms(3) + officers(3) + cases(12, "slots 2 limit 9"));
        for (int number = 0; number < 12; number++) {
            court.plan(number, 0, number % 4 * 2, number / 4, number / 4);
        }
        for (int place = 0; place < 24; place++) {
            Check.same("caseAt", court.caseAt(place / 8, 0, place % 8), place / 2);
        }
        Check.same("the whole room", court.usage(2, 0, 0), 1f);
        Check.same("nothing", court.caseAt(2, 1, 7), -1);
    }

    // ---- promise 20

    private static void problem(int due, CourtCalendar court, int number, int... place) {
        String call = "problem(" + number + ", " + java.util.Arrays.toString(place) + ")";
        Check.same(call, Check.outcome(() -> court.problem(number, place[0], place[1], place[2], place[3])), due);
    }

    private static void problem1() {
        CourtCalendar court = Check.court("holiday 10;room r slots 0 7;officer o;case a filed 8 slots 1 limit 20;case b filed 0 slots 1 limit 20;");
        problem(1, court, 0, 7, 0, 0, 0);
        problem(0, court, 0, 8, 0, 0, 0);
        problem(0, court, 0, 11, 0, 0, 0);
        problem(1, court, 0, 10, 0, 0, 0);
        problem(1, court, 0, 12, 0, 0, 0);
        problem(1, court, 0, 13, 0, 0, 0);
        problem(0, court, 0, 14, 0, 0, 0);
        problem(0, court, 1, 0, 0, 0, 0);
        court.pass(3);
        problem(1, court, 1, 2, 0, 0, 0);
        problem(0, court, 1, 3, 0, 0, 0);
        problem(0, court, 1, 4, 0, 0, 0);
        problem(1, court, 1, 0, 0, 0, 0);
        court.addHoliday(14);
        problem(1, court, 0, 14, 0, 0, 0);
        problem(1, Check.court(rooms(1) + officers(1) + "case a filed 5 slots 1 limit 9;"), 0, 5, 0, 0, 0);
    }

    private static void problem2() {
        CourtCalendar court = Check.court(rooms(1) + officers(1) + cases(1, "slots 1 limit 4"));
        problem(0, court, 0, 4, 0, 0, 0);
        problem(2, court, 0, 7, 0, 0, 0);
        problem(1, court, 0, 594, 0, 0, 0);
        problem(2, court, 0, 599, 0, 0, 0);
        court.plan(0, 4, 0, 0, 0);
        problem(2, court, 0, 7, 0, 0, 0);
        court.addHoliday(3);
        problem(0, court, 0, 7, 0, 0, 0);
        problem(2, court, 0, 8, 0, 0, 0);
        court.adjourn(0, 1);
        problem(0, court, 0, 14, 0, 0, 0);
        problem(2, court, 0, 15, 0, 0, 0);
    }

    private static void problem3() {
        CourtCalendar court = Check.court("room r slots 2 5;room s slots 7 7;room t slots 0 0;officer o;" + cases(1, "slots 1 limit 4")
            + "case f filed 0 slots 4 limit 4;case b filed 0 slots 2 limit 4;");
        int[] one = {3, 3, 0, 0, 0, 0, 3, 3};
        int[] four = {3, 3, 0, 3, 3, 3, 3, 3};
        int[] two = {3, 3, 0, 0, 0, 3, 3, 3};
        for (int slot = 0; slot < 8; slot++) {
            problem(one[slot], court, 0, 0, slot, 0, 0);
            problem(four[slot], court, 1, 0, slot, 0, 0);
            problem(two[slot], court, 2, 0, slot, 0, 0);
            problem(slot == 7 ? 0 : 3, court, 0, 0, slot, 1, 0);
            problem(3, court, 2, 0, slot, 1, 0);
            problem(slot == 0 ? 0 : 3, court, 0, 0, slot, 2, 0);
            problem(3, court, 1, 0, slot, 2, 0);
        }
    }

    /** Beside hearings in the slots 3 and 4 and in slot 7 of day 1, of cases with two and with four slots. */
    private static void overlapping(int due, CourtCalendar court, int two, int four, int room, int officer) {
        int[] ofTwo = {0, 0, due, due, due, 0, due, 3};
        int[] ofFour = {due, due, due, due, due, 3, 3, 3};
        for (int slot = 0; slot < 8; slot++) {
            problem(ofTwo[slot], court, two, 1, slot, room, officer);
            problem(ofFour[slot], court, four, 1, slot, room, officer);
        }
        unhindered(court, two, 0, room, officer);
        unhindered(court, two, 2, room, officer);
    }

    private static void unhindered(CourtCalendar court, int two, int day, int room, int officer) {
        for (int slot = 0; slot < 8; slot++) {
            problem(slot == 7 ? 3 : 0, court, two, day, slot, room, officer);
        }
    }

    private static CourtCalendar withoutWitnesses() {
        return Check.court(rooms(3) + officers(6) + cases(1, "slots 2 limit 9") + "case x filed 0 slots 1 limit 9;"
            + "case y filed 0 slots 2 limit 9;case z filed 0 slots 4 limit 9;");
    }

    private static void problem4() {
        CourtCalendar court = withoutWitnesses();
        court.plan(0, 1, 3, 2, 5);
        court.plan(1, 1, 7, 2, 4);
        overlapping(4, court, 2, 3, 2, 0);
        unhindered(court, 2, 1, 1, 0);
        court.adjourn(0, 2);
        problem(0, court, 2, 1, 3, 2, 0);
        problem(4, court, 2, 1, 6, 2, 0);
    }

    private static void problem5() {
        CourtCalendar court = Check.court(rooms(1) + "officer o off 2 2 off 8 9 off 14 14;officer p;" + cases(1, "slots 1 limit 20"));
        int[] off = {2, 8, 9, 14};
        for (int day : new int[] {0, 1, 2, 3, 4, 7, 8, 9, 10, 11, 14, 15}) {
            boolean away = day == off[0] || day == off[1] || day == off[2] || day == off[3];
            problem(away ? 5 : 0, court, 0, day, 0, 0, 0);
            problem(0, court, 0, day, 0, 0, 1);
        }
    }

    private static void problem6() {
        CourtCalendar court = withoutWitnesses();
        court.plan(0, 1, 3, 2, 5);
        court.plan(1, 1, 7, 1, 5);
        overlapping(6, court, 2, 3, 0, 5);
        unhindered(court, 2, 1, 0, 4);
        court.plan(1, 1, 7, 1, 4);
        problem(0, court, 2, 1, 6, 0, 5);
        problem(6, court, 2, 1, 6, 0, 4);
    }

    private static void problem7() {
        CourtCalendar court = Check.court(rooms(3) + officers(6) + cases(12, "slots 1 limit 9") + "bar f l;conflict k l;");
        for (int officer = 0; officer < 6; officer++) {
            problem(officer == 5 ? 7 : 0, court, 11, 1, 0, 0, officer);
            problem(0, court, 10, 1, 0, 0, officer);
        }
        court.plan(10, 0, 0, 0, 4);
        for (int officer = 0; officer < 6; officer++) {
            problem(officer >= 4 ? 7 : 0, court, 11, 1, 0, 0, officer);
            problem(0, court, 10, 1, 0, 0, officer);
            problem(0, court, 9, 1, 0, 0, officer);
        }
        court.pass(1);
        problem(7, court, 11, 1, 0, 0, 4);
        problem(0, court, 11, 1, 0, 0, 3);
        court.addBar(3, 11);
        problem(7, court, 11, 1, 0, 0, 3);
        problem(0, court, 9, 1, 0, 0, 3);
    }

    private static void problem8() {
        CourtCalendar court = Check.court(rooms(1) + officers(1) + Check.many("witness # days 0 99;", 10)
            + "witness y days 2 9 slots 2 5;witness z days 0 8 slots 0 4;case a filed 0 slots 2 limit 20 needs y;"
            + "case b filed 0 slots 2 limit 20 needs a needs z needs b needs y;case c filed 0 slots 2 limit 20;");
        for (int day : new int[] {0, 1, 2, 3, 4, 7, 8, 9, 10, 11}) {
            for (int slot = 0; slot < 7; slot++) {
                boolean in = day >= 2 && day <= 9 && slot >= 2 && slot <= 4;
                problem(in ? 0 : 8, court, 0, day, slot, 0, 0);
                problem(in && day <= 8 && slot <= 3 ? 0 : 8, court, 1, day, slot, 0, 0);
                problem(0, court, 2, day, slot, 0, 0);
            }
        }
        court.withdraw(10, 8);
        problem(0, court, 0, 7, 2, 0, 0);
        problem(8, court, 0, 8, 2, 0, 0);
        court.withdraw(10, 0);
        problem(8, court, 0, 2, 2, 0, 0);
    }

    private static void problem9() {
        CourtCalendar court = Check.court(rooms(3) + officers(6) + Check.many("witness # days 0 99;", 12)
            + "case a filed 0 slots 2 limit 9 needs l;case b filed 0 slots 1 limit 9 needs k;case c filed 0 slots 2 limit 9 needs a needs l needs k;"
            + "case d filed 0 slots 4 limit 9 needs l;case e filed 0 slots 2 limit 9 needs a;");
        court.plan(0, 1, 3, 2, 5);
        court.plan(1, 1, 7, 1, 4);
        overlapping(9, court, 2, 3, 0, 0);
        unhindered(court, 4, 1, 0, 0);
        court.adjourn(0, 2);
        problem(0, court, 2, 1, 3, 0, 0);
        problem(9, court, 2, 1, 6, 0, 0);
    }

    private static void ownHearingIsNoProblem() {
        CourtCalendar court = Check.court(rooms(1) + officers(1) + "witness w days 0 9;" + cases(1, "slots 4 limit 9 needs w"));
        court.plan(0, 0, 2, 0, 0);
        for (int slot = 0; slot <= 4; slot++) {
            problem(0, court, 0, 0, slot, 0, 0);
        }
        problem(3, court, 0, 0, 5, 0, 0);
    }

    /** Of a hearing with all problems from 1 or 2 on, one is taken away after the other. */
    private static void smallestProblemCounts() {
        String start = "room r slots 0 7;room s slots 2 7;officer o off 1 1;officer p;witness w days 2 2;case a filed 0 slots 1 limit 9 needs w;"
            + "case b filed 0 slots 1 limit 1 needs w;conflict a b;";
        CourtCalendar court = Check.court(start);
        problem(1, court, 1, 5, 0, 1, 0);
        problem(2, court, 1, 7, 0, 1, 0);
        problem(3, court, 1, 1, 0, 1, 0);
        CourtCalendar all = Check.court("room r slots 0 7;room s slots 0 7;officer o off 3 3;officer p;witness w days 0 9 slots 0 3;"
            + "witness v days 0 1;case a filed 0 slots 2 limit 9 needs w;case b filed 0 slots 2 limit 9 needs w needs v;conflict a b;");
        all.plan(0, 2, 0, 0, 0);
        problem(4, all, 1, 2, 1, 0, 0);
        problem(6, all, 1, 2, 1, 1, 0);
        problem(5, all, 1, 3, 1, 1, 0);
        problem(7, all, 1, 2, 2, 1, 0);
        problem(8, all, 1, 2, 1, 1, 1);
        all.plan(0, 1, 0, 0, 0);
        problem(9, all, 1, 1, 1, 1, 1);
        problem(8, all, 1, 1, 3, 1, 1);
        problem(0, all, 1, 1, 2, 1, 1);
    }

    // ---- promises 21 and 22

    private static void opening(CourtCalendar court, int number, int... due) {
        for (int what = 0; what < 4; what++) {
            int at = what;
            Check.same("opening " + what, Check.outcome(() -> court.opening(number, at)), due.length == 0 ? -1 : due[what]);
        }
    }

    private static void openingNowhere() {
        opening(Check.court(cases(1, "slots 1 limit 60")), 0);
        opening(Check.court(rooms(3) + cases(1, "slots 1 limit 60")), 0);
        opening(Check.court(officers(6) + cases(1, "slots 1 limit 60")), 0);
        opening(Check.court("room r slots 3 5;" + officers(6) + cases(1, "slots 4 limit 60")), 0);
        opening(Check.court(rooms(3) + "officer o off 0 599;" + cases(1, "slots 1 limit 60")), 0);
        opening(Check.court(rooms(3) + officers(1) + cases(1, "slots 1 limit 60") + "bar a a;"), 0);
        opening(Check.court(rooms(3) + officers(1) + "witness w days 100 599;" + cases(1, "slots 1 limit 60 needs w")), 0);
        opening(Check.court(rooms(3) + officers(1) + "witness w days 5 6;" + cases(1, "slots 1 limit 60 needs w")), 0);
        opening(Check.court(rooms(3) + officers(1) + "witness w days 0 599 slots 0 2;" + cases(1, "slots 4 limit 60 needs w")), 0);
        opening(Check.court(rooms(3) + officers(1) + "witness w days 0 599 slots 0 2;witness v days 0 599 slots 2 7;"
            + cases(1, "slots 2 limit 60 needs w needs v")), 0);
    }

    private static void openingOnTheLastDay() {
        String limit = cases(1, "slots 1 limit 4");
        opening(Check.court(rooms(1) + "officer o off 0 3;" + limit), 0, 4, 0, 0, 0);
        opening(Check.court(rooms(1) + "officer o off 0 4;" + limit), 0);
        opening(Check.court(rooms(1) + officers(1) + "witness w days 4 599;" + cases(1, "slots 1 limit 4 needs w")), 0, 4, 0, 0, 0);
        opening(Check.court(rooms(1) + officers(1) + "witness w days 5 599;" + cases(1, "slots 1 limit 4 needs w")), 0);
        CourtCalendar court = Check.court(rooms(1) + officers(1) + "case a filed 3 slots 1 limit 5;");
        opening(court, 0, 3, 0, 0, 0);
        court.pass(3);
        opening(court, 0, 3, 0, 0, 0);
        court.pass(1);
        opening(court, 0, 4, 0, 0, 0);
        court.pass(1);
        opening(court, 0, 7, 0, 0, 0);
        court.pass(5);
        opening(court, 0, 10, 0, 0, 0);
        court.addHoliday(10);
        opening(court, 0, 11, 0, 0, 0);
        opening(Check.court(rooms(1) + officers(1) + "case a filed 99 slots 1 limit 60;"), 0, 99, 0, 0, 0);
        opening(Check.court(rooms(1) + officers(1) + "case a filed 96 slots 1 limit 60;"), 0, 98, 0, 0, 0);
    }

    private static void openingInOrder() {
        // The day before the slot, the slot before the room, the room before the officer.
        opening(Check.court("room r slots 7 7;room s slots 0 7;officer o off 1 9;officer p off 0 0;" + cases(1, "slots 1 limit 9")), 0, 0, 0, 1, 0);
        opening(Check.court("room r slots 1 7;room s slots 0 7;officer o off 0 0;officer p;" + cases(1, "slots 1 limit 9")), 0, 0, 0, 1, 1);
        opening(Check.court("room r slots 4 7;room s slots 3 6;room t slots 3 7;officer o;" + cases(1, "slots 4 limit 9")), 0, 0, 3, 1, 0);
        CourtCalendar court = Check.court(rooms(2) + officers(2) + cases(3, "slots 4 limit 9"));
        court.plan(0, 0, 0, 0, 0);
        opening(court, 2, 0, 0, 1, 1);
        court.plan(1, 0, 0, 1, 1);
        opening(court, 2, 0, 4, 0, 0);
        court.plan(1, 0, 1, 1, 1);
        opening(court, 2, 0, 4, 0, 0);
        court.plan(0, 0, 4, 0, 0);
        opening(court, 2, 0, 0, 0, 0);
    }

    private static void openingOfTheLastRoomAndOfficer() {
        CourtCalendar court = Check.court("room r slots 0 6;room s slots 0 6;room t slots 7 7;" + officers(6) + cases(12, "slots 1 limit 1")
            + "bar a l;bar b l;bar c l;bar d l;");
        opening(court, 11, 0, 0, 0, 4);
        for (int place = 0; place < 7; place++) {
            court.plan(place, 0, place, 1, 4);
        }
        opening(court, 11, 0, 0, 0, 5);
        court.addBar(5, 11);
        opening(court, 11, 0, 7, 2, 4);
        court.plan(10, 0, 7, 2, 4);
        opening(court, 11, 1, 0, 0, 4);
        court.addBar(4, 11);
        opening(court, 11);
        CourtCalendar away = Check.court(rooms(1) + "officer a off 0 0;officer b;officer c off 0 3;officer d off 0 1;" + cases(2, "slots 4 limit 9"));
        opening(away, 0, 0, 0, 0, 1);
        away.addBar(1, 0);
        opening(away, 0, 1, 0, 0, 0);
    }

    /** Slot 1 is hindered twice: w is needed for the other hearing, and v has no window then. */
    private static void openingAmongWitnesses() {
        CourtCalendar court = Check.court(rooms(3) + officers(6) + "witness w days 0 9;witness v days 0 9 slots 0 0;witness u days 0 9 slots 2 6;"
            + "case a filed 0 slots 2 limit 9 needs w;case b filed 0 slots 1 limit 9 needs w needs v;case c filed 0 slots 1 limit 9 needs w needs u;"
            + "case d filed 0 slots 2 limit 9 needs u needs w;");
        court.plan(0, 0, 0, 0, 0);
        opening(court, 1, 1, 0, 0, 1);
        opening(court, 2, 0, 2, 0, 1);
        opening(court, 3, 0, 2, 0, 1);
        court.plan(0, 0, 1, 0, 0);
        opening(court, 1, 0, 0, 0, 1);
        opening(court, 2, 0, 3, 0, 1);
        opening(court, 0, 0, 0, 0, 1);
        court.plan(2, 0, 5, 2, 5);
        opening(court, 3, 0, 3, 0, 1);
        court.plan(0, 0, 3, 0, 0);
        opening(court, 3, 1, 2, 0, 1);
        Check.same("the own hearing hinders none", court.openDays(0), 8);
    }

    private static void openingWithTheLeastLoad() {
        CourtCalendar court = Check.court(rooms(3) + officers(6) + cases(12, "slots 1 limit 9"));
        for (int number = 0; number < 11; number++) {
            opening(court, 11, 0, 0, 0, number % 6);
            court.plan(number, 8, number % 8, number / 8, number % 6);
        }
        opening(court, 11, 0, 0, 0, 5);
        court.pass(1);
        court.pass(1);
        court.plan(11, 8, 7, 2, 5);
        // The own present hearing counts for the load of its officer.
        opening(court, 11, 2, 0, 0, 0);
        court.adjourn(10, 2);
        opening(court, 11, 2, 0, 0, 4);
        CourtCalendar heard = Check.court(rooms(3) + officers(2) + cases(2, "slots 1 limit 9"));
        heard.plan(0, 0, 0, 0, 0);
        heard.pass(1);
        opening(heard, 1, 1, 0, 0, 1);
    }

    private static void openDaysFromNoneToMost() {
        Check.same("without rooms", Check.court(officers(1) + cases(1, "slots 1 limit 60")).openDays(0), 0);
        Check.same("without officers", Check.court(rooms(1) + cases(1, "slots 1 limit 60")).openDays(0), 0);
        Check.same("one", Check.court(rooms(1) + officers(1) + "case a filed 5 slots 1 limit 1;").openDays(0), 1);
        Check.same("two", Check.court(rooms(1) + officers(1) + "case a filed 4 slots 1 limit 1;").openDays(0), 2);
        Check.same("of an hour", Check.court(rooms(3) + officers(6) + "case a filed 4 slots 1 limit 1;").openDays(0), 2);
        Check.same("most in the text", Check.court(rooms(1) + officers(1) + cases(1, "slots 4 limit 60")).openDays(0), 61);
        CourtCalendar court = Check.court(rooms(1) + officers(1) + cases(12, "slots 4 limit 1"));
        court.plan(0, 0, 0, 0, 0);
        Check.same("half a day is open", court.openDays(11), 2);
        court.plan(1, 0, 4, 0, 0);
        Check.same("a day is full", court.openDays(11), 1);
        Check.same("but for the own hearing", court.openDays(1), 2);
        court.plan(2, 1, 0, 0, 0);
        court.plan(3, 1, 4, 0, 0);
        Check.same("all days are full", court.openDays(11), 0);
        court.pass(1);
        Check.same("its own day", court.openDays(3), 1);
    }

    // ---- promises 23 to 25

    private static void urgencyInOrder() {
        CourtCalendar court = Check.court(Check.many("case # filed 0 slots 1 limit 5;", 9)
            + "case x filed 0 slots 1 limit 5 custody;case y filed 0 slots 1 limit 4;case z filed 0 slots 1 limit 6 custody;");
        int[] due = {10, 9, 0, 1, 2, 3, 4, 5, 6, 7, 8, 11};
        for (int index = 0; index < 12; index++) {
            Check.same("urgent " + index, court.urgent(index), due[index]);
        }
        court.addHoliday(8);
        court.addHoliday(7);
        for (int index = 0; index < 12; index++) {
            Check.same("urgent " + index, court.urgent(index), due[index]);
        }
        court.pass(5);
        Check.same("one is lapsed", court.urgent(0), 9);
        Check.same("the last one", court.urgent(10), 11);
        Check.same("none behind", Check.outcome(() -> court.urgent(11)), "NoSuchElementException");
        CourtCalendar equal = Check.court(cases(11, "slots 1 limit 60 custody") + "case l filed 0 slots 1 limit 60;");
        for (int index = 0; index < 12; index++) {
            Check.same("smaller numbers first", equal.urgent(index), index);
        }
    }

    private static void slackFromNoneToMost() {
        CourtCalendar court = Check.court("holiday 2;" + cases(11, "slots 1 limit 60") + "case l filed 0 slots 1 limit 3;");
        int[] due = {4, 3, 2, 2, 1, 0, 0, 0};
        for (int day = 0; day < due.length; day++) {
            Check.same("slack on day " + day, court.slack(11), due[day]);
            Check.same("slack of another one", court.slack(0), court.workingDays(day, court.matter(0, 4)));
            court.pass(1);
        }
        Check.same("lapsed", court.matter(11, 5), 3);
        for (int times = 0; times < 6; times++) {
            court.pass(times < 5 ? 99 : 1);
        }
        Check.same("far behind", court.slack(0), 0);
        Check.same("the most told", Check.court("case a filed 99 slots 1 limit 60;").slack(0), 132);
    }

    private static void eligibleFromNoneToAll() {
        for (int set = 0; set < 64; set++) {
            StringBuilder text = new StringBuilder(officers(6) + cases(12, "slots 1 limit 9"));
            for (int officer = 0; officer < 6; officer++) {
                text.append((set >> officer & 1) == 0 ? "bar " + LETTERS.charAt(officer) + " l;" : "");
            }
            CourtCalendar court = Check.court(text.toString());
            Check.same("eligible", court.eligible(11), set);
            Check.same("of another case", court.eligible(10), 63);
        }
        Check.same("without officers", Check.court(cases(12, "slots 1 limit 9")).eligible(11), 0);
        CourtCalendar court = Check.court(rooms(3) + officers(6) + cases(12, "slots 1 limit 9") + Check.many("conflict l #;", 11));
        for (int officer = 0; officer < 6; officer++) {
            Check.same("so many have a conflict", court.eligible(11), 63 >> officer << officer);
            court.plan(officer, 0, officer, 0, officer);
        }
        Check.same("all have", court.eligible(11), 0);
        court.pass(1);
        Check.same("heard", court.eligible(11), 0);
    }

    // ---- promises 26 to 28

    private static String allInConflict(int number) {
        StringBuilder all = new StringBuilder();
        for (int i = 0; i < number; i++) {
            for (int j = 0; j < i; j++) {
                all.append("conflict ").append(LETTERS.charAt(i)).append(' ').append(LETTERS.charAt(j)).append(';');
            }
        }
        return all.toString();
    }

    private static void fewestOfficersFromNoneToAll() {
        for (int officers = 0; officers <= 6; officers++) {
            for (int number = 0; number <= 7; number++) {
                CourtCalendar court = Check.court(officers(officers) + Check.many("case # filed 0 slots 1 limit 1;", number) + allInConflict(number));
                Check.same("of " + officers + " for " + number + " in conflict", court.fewestOfficers(), number <= officers ? number : -1);
            }
            for (int number = 1; number <= 12; number++) {
                CourtCalendar court = Check.court(officers(officers) + cases(number, "slots 1 limit 1"));
                Check.same("of " + officers + " for " + number, court.fewestOfficers(), officers > 0 ? 1 : -1);
            }
        }
        CourtCalendar own = Check.court(officers(6) + cases(12, "slots 1 limit 1") + "bar a f;bar b f;bar c f;bar d f;bar e f;"
            + "bar a e;bar b e;bar c e;bar d e;bar f e;bar a d;bar b d;bar c d;bar e d;bar f d;bar a c;bar b c;bar d c;bar e c;bar f c;");
        CourtCalendar second = Check.court(officers(2) + cases(2, "slots 1 limit 1") + "conflict a b;bar b a;");
        Check.same("a hears the first one alone", second.fewestOfficers(), 2);
        second.addBar(1, 1);
        Check.same("b hears none", second.fewestOfficers(), -1);
        Check.same("four have one officer each", own.fewestOfficers(), 4);
        own.addBar(5, 5);
        Check.same("one has none", own.fewestOfficers(), -1);
    }

    private static void fewestOfficersOfNothing() {
        Check.same("nothing", new CourtCalendar().fewestOfficers(), 0);
        Check.same("no cases", Check.court(officers(6)).fewestOfficers(), 0);
        Check.same("no officers", Check.court(cases(12, "slots 1 limit 1")).fewestOfficers(), -1);
        CourtCalendar court = Check.court(rooms(1) + officers(2) + cases(2, "slots 1 limit 9") + "conflict a b;bar a a;");
        court.plan(0, 0, 0, 0, 1);
        court.plan(1, 0, 1, 0, 0);
        court.pass(1);
        Check.same("heard cases count too", court.fewestOfficers(), 2);
        court.addBar(0, 1);
        Check.same("and their bars", court.fewestOfficers(), -1);
    }

    private static void meanSlackFromNoneToAll() {
        Check.same("no case", new CourtCalendar().meanSlack(), 0.0);
        Check.same("one", Check.court("case a filed 0 slots 1 limit 9;").meanSlack(), 10.0);
        CourtCalendar court = Check.court(rooms(3) + officers(3) + Check.many("case # filed 0 slots 1 limit 9;", 11) + "case l filed 0 slots 1 limit 10;");
        Check.same("all", court.meanSlack(), 121.0 / 12.0);
        for (int number = 0; number < 11; number++) {
            place(court, number, number);
            Check.same("the others", court.meanSlack(), (121.0 - 10.0 * (number + 1)) / (11.0 - number));
        }
        place(court, 11, 11);
        Check.same("all are planned", court.meanSlack(), 0.0);
        court.pass(1);
        Check.same("all are heard", court.meanSlack(), 0.0);
        CourtCalendar last = Check.court("case a filed 0 slots 1 limit 1;");
        last.pass(1);
        Check.same("on the limit day", last.meanSlack(), 1.0);
        last.pass(1);
        Check.same("lapsed", last.meanSlack(), 0.0);
    }

    private static void usageFromNoneToAll() {
        CourtCalendar court = Check.court("room a slots 3 3;room b slots 0 7;room c slots 4 7;" + officers(3) + cases(12, "slots 1 limit 9"));
        for (int place = 0; place < 8; place++) {
            Check.same("part of a day", court.usage(1, 0, 0), (float) place / 8f);
            court.plan(place, 0, place, 1, 0);
        }
        Check.same("a whole day", court.usage(1, 0, 0), 1f);
        Check.same("nothing of the others", court.usage(0, 0, 0) + court.usage(2, 0, 0), 0f);
        court.plan(8, 0, 3, 0, 1);
        Check.same("a room of one slot", court.usage(0, 0, 0), 1f);
        court.plan(9, 0, 7, 2, 2);
        Check.same("a room of four slots", court.usage(2, 0, 0), 0.25f);
        court.pass(1);
        Check.same("heard", court.usage(1, 0, 0), 1f);
        Check.same("no hearing", Check.court(rooms(3)).usage(2, 0, 599), 0f);
    }

    private static void usageOfASpan() {
        CourtCalendar court = Check.court("holiday 8;room r slots 2 4;officer o;" + cases(2, "slots 1 limit 20"));
        court.plan(0, 4, 2, 0, 0);
        court.plan(1, 9, 4, 0, 0);
        Check.same("from its day", court.usage(0, 4, 7), 1f / 6f);
        Check.same("from the day behind", court.usage(0, 5, 7), 0f);
        Check.same("to its day", court.usage(0, 7, 9), 1f / 6f);
        Check.same("to the day before", court.usage(0, 7, 8), 0f);
        Check.same("from one to the other", court.usage(0, 4, 9), 2f / 9f);
        Check.same("a weekend", court.usage(0, 5, 6), 0f);
        Check.same("a holiday", court.usage(0, 8, 8), 0f);
        Check.same("all days", court.usage(0, 0, 599), 2f / (3f * 429f));
        Check.same("the last day", court.usage(0, 599, 599), 0f);
    }
}
