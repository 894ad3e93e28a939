/** Promises 38 to 44: each boundary that the document names, by a test of its own; RefusedCallsTest has the parameters' ranges. */
public final class ForecastEdgesTest {
    private static final String ROOMS = Check.many("room # slots 0 7;", 3);
    private static final String OFFICERS = Check.many("officer #;", 6);

    public static void main(String[] args) {
        lapsesInUpToTheLimitDay();
        lapsesInOfNoneToAll();
        lapsesInAsPassLapses();
        plannableFromNoneToAll();
        plannableAsPlanAllPlans();
        keyOfficerOfNothing();
        keyOfficerEachOne();
        keyOfficerOnATie();
        keyOfficerWhoHurtsMost();
        keyOfficerIsOffOnAllDays();
        printDayWithoutHearings();
        printDayOfEachSlotAndRoom();
        printDayBySlotsThenRooms();
        printDayOfTheLongestNames();
        printDayInPlaceOfTheTextBefore();
        printDayOfHeardAndTakenAway();
        outputByteFromFirstToLast();
        saveStateInPlaceOfTheEarlierOne();
        saveStateLeavesTheRest();
        restoreStateEachTime();
        restoreStateOfEachChange();
        restoreStateLeavesTheRest();
        Check.end("ForecastEdgesTest");
    }

    private static String cases(int number, String rest) {
        return Check.many("case # filed 0 " + rest + ";", number);
    }

    // ---- promise 38

    private static void lapsesInUpToTheLimitDay() {
        CourtCalendar court = Check.court("holiday 3;" + Check.many("case # filed 0 slots 1 limit 1%;", 10) + "case y filed 0 slots 1 limit 60;"
            + "case z filed 99 slots 1 limit 1;");
        for (int passed = 0; passed <= 40; passed += 20) {
            for (int days = 1; days <= 99; days++) {
                int due = 0;
                for (int number = 0; number < 12; number++) {
                    due += court.matter(number, 5) == 0 && court.matter(number, 4) < passed + days ? 1 : 0;
                }
                Check.same("lapsesIn " + days + " on " + passed, court.lapsesIn(days), due);
            }
            court.pass(20);
        }
    }

    private static void lapsesInOfNoneToAll() {
        Check.same("no cases", new CourtCalendar().lapsesIn(99), 0);
        CourtCalendar court = Check.court(ROOMS + OFFICERS + cases(12, "slots 1 limit 1"));
        Check.same("none yet", court.lapsesIn(1), 0);
        Check.same("all", court.lapsesIn(2), 12);
        for (int number = 0; number < 12; number++) {
            court.plan(number, 1, number % 8, number / 8, number / 8);
            Check.same("planned ones do not lapse", court.lapsesIn(99), 11 - number);
        }
        court.pass(2);
        Check.same("heard ones do not", court.lapsesIn(99), 0);
        CourtCalendar gone = Check.court(cases(12, "slots 1 limit 1"));
        gone.pass(2);
        Check.same("lapsed ones do not lapse again", gone.lapsesIn(1), 0);
    }

    private static CourtCalendar undecided() {
        CourtCalendar court = Check.court(ROOMS + OFFICERS + cases(3, "slots 1 limit 3") + "case x filed 0 slots 1 limit 9;"
            + "case y filed 7 slots 1 limit 2;");
        court.plan(0, 2, 0, 0, 0);
        return court;
    }

    private static void lapsesInAsPassLapses() {
        for (int days = 1; days <= 20; days++) {
            CourtCalendar court = undecided();
            int forecast = court.lapsesIn(days);
            court.pass(days);
            Check.same("as forecast for " + days, court.count(13), forecast);
            court.undo();
            Check.same("nothing else changed", Check.drained(court), Check.drained(undecided()));
        }
    }

    // ---- promise 39

    private static void plannableFromNoneToAll() {
        Check.same("no cases", new CourtCalendar().plannable(), 0);
        Check.same("no rooms", Check.court(OFFICERS + cases(12, "slots 1 limit 9")).plannable(), 0);
        Check.same("no officers", Check.court(ROOMS + cases(12, "slots 1 limit 9")).plannable(), 0);
        CourtCalendar court = Check.court(ROOMS + OFFICERS + cases(12, "slots 4 limit 1"));
        Check.same("all", court.plannable(), 12);
        for (int number = 11; number >= 0; number--) {
            court.planNext(number);
            Check.same("those that wait", court.plannable(), number);
        }
        CourtCalendar one = Check.court("room r slots 0 3;officer o;" + cases(12, "slots 4 limit 9"));
        Check.same("a day each, up to the limit day", one.plannable(), 10);
        one.pass(11);
        Check.same("on the limit day", one.plannable(), 1);
        one.pass(1);
        Check.same("behind it", one.plannable(), 0);
    }

    private static void plannableAsPlanAllPlans() {
        for (int hindered = 0; hindered <= 12; hindered++) {
            CourtCalendar court = Check.court(ROOMS + "officer z;" + cases(12, "slots 1 limit 9") + Check.many("bar z #;", hindered));
            String before = Check.digest(court);
            int forecast = court.plannable();
            Check.same("plannable", forecast, 12 - hindered);
            Check.same("nothing changes", Check.digest(court), before);
            Check.same("planAll", court.planAll(), forecast);
        }
    }

    // ---- promise 40

    private static void keyOfficerOfNothing() {
        Check.same("nothing", new CourtCalendar().keyOfficer(), -1);
        Check.same("no cases", Check.court(ROOMS + OFFICERS).keyOfficer(), -1);
        Check.same("no rooms", Check.court(OFFICERS + cases(12, "slots 1 limit 9")).keyOfficer(), -1);
        Check.same("no officers", Check.court(ROOMS + cases(12, "slots 1 limit 9")).keyOfficer(), -1);
        Check.same("each one can be spared", Check.court(ROOMS + OFFICERS + cases(12, "slots 1 limit 9")).keyOfficer(), -1);
        CourtCalendar court = Check.court(ROOMS + "officer o;" + cases(1, "slots 1 limit 9"));
        Check.same("the only one", court.keyOfficer(), 0);
        court.planAll();
        Check.same("all are planned", court.keyOfficer(), -1);
    }

    private static void keyOfficerEachOne() {
        for (int officer = 0; officer < 6; officer++) {
            StringBuilder text = new StringBuilder(ROOMS + OFFICERS + cases(12, "slots 1 limit 9"));
            for (int other = 0; other < 6; other++) {
                text.append(other == officer ? "" : "bar " + (char) ('a' + other) + " l;");
            }
            CourtCalendar court = Check.court(text.toString());
            Check.same("the only one for the last case", court.keyOfficer(), officer);
            court.addBar(officer, 11);
            Check.same("without any", court.keyOfficer(), -1);
        }
    }

    private static void keyOfficerOnATie() {
        for (int first = 0; first < 6; first++) {
            for (int second = 0; second < 6; second++) {
                StringBuilder text = new StringBuilder(ROOMS + OFFICERS + cases(2, "slots 1 limit 9"));
                for (int other = 0; other < 6; other++) {
                    text.append(other == first ? "" : "bar " + (char) ('a' + other) + " a;");
                    text.append(other == second ? "" : "bar " + (char) ('a' + other) + " b;");
                }
                Check.same("the smallest one", Check.court(text.toString()).keyOfficer(), Math.min(first, second));
            }
        }
    }

    private static void keyOfficerWhoHurtsMost() {
        CourtCalendar court = Check.court(ROOMS + Check.many("officer #;", 3) + cases(5, "slots 1 limit 9")
            + "bar a a;bar b a;bar a b;bar c b;bar a c;bar c c;bar b d;bar c d;bar a e;bar b e;");
        Check.same("c and b have two each, a has one", court.keyOfficer(), 1);
        court.addBar(1, 1);
        Check.same("b has one now", court.keyOfficer(), 2);
        court.plan(4, 0, 0, 0, 2);
        Check.same("one each", court.keyOfficer(), 0);
        court.planNext(3);
        Check.same("a has none now", court.keyOfficer(), 1);
    }

    private static void keyOfficerIsOffOnAllDays() {
        CourtCalendar court = Check.court("room r slots 0 0;officer o off 0 98;officer p off 99 599;case a filed 99 slots 1 limit 60;"
            + "case b filed 0 slots 1 limit 1;");
        Check.same("each is needed", court.keyOfficer(), 0);
        court.plan(1, 0, 0, 0, 1);
        Check.same("on the late days", court.keyOfficer(), 0);
        CourtCalendar away = Check.court("room r slots 0 7;officer o off 0 0;" + cases(1, "slots 1 limit 1"));
        Check.same("also on the days on which the officer is off", away.keyOfficer(), 0);
        CourtCalendar limited = Check.court("room r slots 0 7;officer o;officer p off 0 0;case a filed 0 slots 4 limit 1;"
            + "case b filed 0 slots 4 limit 1;case c filed 0 slots 4 limit 1;case d filed 0 slots 4 limit 1;");
        Check.same("four with both of them", limited.plannable(), 4);
        Check.same("without o two fewer", limited.keyOfficer(), 0);
    }

    // ---- promises 41 and 42

    private static void printDayWithoutHearings() {
        Check.same("nothing", new CourtCalendar().printDay(0), 0);
        Check.same("nothing", new CourtCalendar().printDay(599), 0);
        CourtCalendar court = Check.court(ROOMS + OFFICERS + cases(1, "slots 1 limit 9"));
        court.plan(0, 3, 0, 0, 0);
        Check.same("the day before", court.printDay(2), 0);
        Check.same("no byte", court.outputByte(0), -1);
        Check.same("the day", court.printDay(3), 8);
        Check.same("the day after", court.printDay(4), 0);
        Check.same("no byte", court.outputByte(0), -1);
    }

    private static void printDayOfEachSlotAndRoom() {
        for (int place = 0; place < 24 * 6; place++) {
            CourtCalendar court = Check.court("room rooma slots 0 7;room b slots 0 7;room roomc slots 0 7;" + OFFICERS + cases(12, "slots 1 limit 9"));
            court.plan(11, 11, place % 8, place / 8 % 3, place / 24);
            String due = place % 8 + " " + new String[] {"rooma", "b", "roomc"}[place / 8 % 3] + " l " + "abcdef".charAt(place / 24) + "\n";
            Check.same("bytes", court.printDay(11), due.length());
            Check.same("output", Check.output(court), due);
        }
    }

    private static void printDayBySlotsThenRooms() {
        CourtCalendar court = Check.court(ROOMS + OFFICERS + cases(12, "slots 1 limit 9"));
        // The first case has the last place.
        for (int number = 0; number < 12; number++) {
            court.plan(number, 0, 7 - number / 3, 2 - number % 3, number % 6);
        }
        StringBuilder due = new StringBuilder();
        for (int number = 11; number >= 0; number--) {
            due.append(7 - number / 3).append(' ').append("cba".charAt(number % 3)).append(' ').append((char) ('a' + number)).append(' ')
                .append((char) ('a' + number % 6)).append('\n');
        }
        Check.same("bytes", court.printDay(0), 96);
        Check.same("output", Check.output(court), due.toString());
        CourtCalendar longer = Check.court(ROOMS + OFFICERS + cases(2, "slots 4 limit 9") + "case x filed 0 slots 1 limit 9;");
        longer.plan(0, 0, 4, 0, 0);
        longer.plan(1, 0, 1, 1, 1);
        longer.plan(2, 0, 3, 2, 2);
        longer.printDay(0);
        Check.same("each one once, by its first slot", Check.output(longer), "1 b b b\n3 c x c\n4 a a a\n");
    }

    private static void printDayOfTheLongestNames() {
        StringBuilder due = new StringBuilder();
        CourtCalendar court = Check.court("room zzzzzzzz slots 0 7;room yyyyyyyy slots 0 7;officer ayyyyyyy;officer azzzzzzz;"
            + Check.many("case #zzzzzzz filed 0 slots 1 limit 1;", 12));
        for (int number = 0; number < 12; number++) {
            court.plan(number, 1, number / 2, number % 2, number % 2);
            due.append(number / 2).append(number % 2 == 0 ? " zzzzzzzz " : " yyyyyyyy ").append((char) ('a' + number)).append("zzzzzzz ")
                .append(number % 2 == 0 ? "ayyyyyyy\n" : "azzzzzzz\n");
        }
        Check.same("bytes", court.printDay(1), 12 * 29);
        Check.same("output", Check.output(court), due.toString());
        Check.same("the last byte", court.outputByte(347), 10);
        Check.same("behind it", court.outputByte(348), -1);
        court.pass(2);
        Check.same("heard", court.printDay(1), 12 * 29);
        Check.same("output", Check.output(court), due.toString());
    }

    private static CourtCalendar twoDays() {
        CourtCalendar court = Check.court(ROOMS + OFFICERS + cases(3, "slots 1 limit 9"));
        court.plan(0, 0, 0, 0, 0);
        court.plan(1, 0, 1, 0, 0);
        court.plan(2, 1, 7, 2, 5);
        return court;
    }

    private static void printDayInPlaceOfTheTextBefore() {
        CourtCalendar court = twoDays();
        Check.same("two hearings", court.printDay(0), 16);
        Check.same("one", court.printDay(1), 8);
        Check.same("output", Check.output(court), "7 c c f\n");
        Check.same("nothing is left behind it", court.outputByte(8), -1);
        Check.same("none", court.printDay(2), 0);
        Check.same("output", Check.output(court), "");
        Check.same("two again", court.printDay(0), 16);
        Check.same("output", Check.output(court), "0 a a a\n1 a b a\n");
    }

    private static void printDayOfHeardAndTakenAway() {
        CourtCalendar court = twoDays();
        court.printDay(0);
        court.adjourn(1, 0);
        Check.same("the output stays until the next printDay", Check.output(court), "0 a a a\n1 a b a\n");
        court.printDay(0);
        Check.same("an adjourned one is gone", Check.output(court), "0 a a a\n");
        court.pass(1);
        Check.same("a heard one stays", court.printDay(0), 8);
        court.pass(50);
        Check.same("a heard one stays", court.printDay(1), 8);
        Check.same("a lapsed one is not there", court.count(13), 1);
    }

    private static void outputByteFromFirstToLast() {
        CourtCalendar court = twoDays();
        for (int index : new int[] {Integer.MIN_VALUE, -1, 0, 1, 7, 8, 347, 348, Integer.MAX_VALUE}) {
            Check.same("before any output", court.outputByte(index), -1);
        }
        court.printDay(1);
        String due = "7 c c f\n";
        for (int index = -10; index < 400; index++) {
            Check.same("byte " + index, court.outputByte(index), index < 0 || index >= 8 ? -1 : due.charAt(index));
        }
        Check.same("the least", court.outputByte(Integer.MIN_VALUE), -1);
        Check.same("the most", court.outputByte(Integer.MAX_VALUE), -1);
    }

    // ---- promises 43 and 44

    private static void saveStateInPlaceOfTheEarlierOne() {
        CourtCalendar court = new CourtCalendar();
        Check.same("on the first day", court.saveState(), 0);
        for (int times = 0; times < 6; times++) {
            court.pass(99);
        }
        court.pass(5);
        Check.same("on the last day", court.saveState(), 599);
        for (int changes = 7; changes >= 0; changes--) {
            Check.same("undo", court.count(9) > 0 ? court.undo() : 0, Math.max(0, changes - 1));
        }
        Check.same("the present day", court.count(7), 0);
        Check.same("the later one", court.restoreState(), 599);
        Check.same("the present day", court.count(7), 599);
        Check.same("it stays saved", court.restoreState(), 599);
    }

    /** As much as there may be, with two changes that can be undone. */
    private static CourtCalendar busy() {
        CourtCalendar court = Check.court(ROOMS + OFFICERS + Check.many("witness # days 0 99;", 12) + cases(12, "slots 1 limit 9 needs l"));
        court.plan(11, 2, 7, 2, 5);
        court.plan(10, 3, 7, 2, 5);
        return court;
    }

    private static void saveStateLeavesTheRest() {
        CourtCalendar court = busy();
        court.printDay(2);
        Check.type(court, "!");
        court.parse();
        Check.type(court, "officer");
        String before = Check.digest(court);
        Check.same("the present day", court.saveState(), 0);
        Check.same("nothing else changes", Check.digest(court), before);
        Check.same("the buffer stays", Check.bufferLength(court), 7);
        Check.same("the changes stay", court.undo(), 1);
        Check.same("undo leaves the saved state", court.undo(), 0);
        Check.same("the present day", court.restoreState(), 0);
        Check.same("as saved, but for the changes", Check.digest(court), before.replace(" 15 2 ", " 15 0 "));
    }

    private static void restoreStateEachTime() {
        CourtCalendar court = busy();
        Check.same("nothing is saved", Check.outcome(court::restoreState), "IllegalStateException");
        court.saveState();
        String due = Check.digest(court).replace(" 15 2 ", " 15 0 ");
        for (int times = 0; times < 3; times++) {
            court.pass(3);
            Check.same("restored", court.restoreState(), 0);
            Check.same("as saved", Check.digest(court), due);
            Check.same("nothing can be undone", Check.outcome(court::undo), "IllegalStateException");
            court.pass(1);
            Check.same("a change after it", court.undo(), 0);
            Check.same("as saved", Check.digest(court), due);
        }
        court.parse();
        Check.same("no state is saved after parse", Check.outcome(court::restoreState), "IllegalStateException");
        Check.type(court, "!");
        court.saveState();
        court.parse();
        Check.same("one that fails leaves it", Check.outcome(court::restoreState), 0);
    }

    private static void restoreStateOfEachChange() {
        Check.Asking[] changes = {(court, x) -> court.pass(4), (court, x) -> court.plan(11, 4, 0, 0, 0), (court, x) -> court.planNext(0),
            (court, x) -> court.planAll(), (court, x) -> court.adjourn(11, 1), (court, x) -> court.withdraw(11, 0),
            (court, x) -> court.addHoliday(2), (court, x) -> court.addBar(5, 11), (court, x) -> court.undo()};
        for (Check.Asking change : changes) {
            CourtCalendar court = busy();
            String due = Check.digest(court).replace(" 15 2 ", " 15 0 ");
            court.saveState();
            change.ask(court, 0);
            court.restoreState();
            Check.same("as saved", Check.digest(court), due);
            court.pass(4);
            court.saveState();
            String later = Check.digest(court);
            court.undo();
            court.restoreState();
            Check.same("as saved then", Check.digest(court), later.replace(" 15 1 ", " 15 0 "));
        }
    }

    private static void restoreStateLeavesTheRest() {
        CourtCalendar court = busy();
        court.saveState();
        court.printDay(3);
        Check.type(court, "cap 61;");
        court.parse();
        Check.type(court, "officer");
        court.restoreState();
        Check.same("the output", Check.output(court), "7 c k f\n");
        Check.same("the error", court.errorCode() * 10 + court.errorOffset(), 24);
        Check.same("the buffer", Check.bufferLength(court), 7);
    }
}
