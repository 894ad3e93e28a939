/** Promises 38 to 44: forecasts, the output, and the saved state. */
public final class ForecastTest {
    private static final Class<?> NO_ARGUMENT = IllegalArgumentException.class;
    private static final Class<?> NO_STATE = IllegalStateException.class;

    public static void main(String[] args) {
        promise38LapsesIn();
        promise39Plannable();
        promise40KeyOfficer();
        promise40KeyOfficerTies();
        promise41PrintDay();
        promise41PrintFullDay();
        promise42OutputByte();
        promise43SaveState();
        promise44RestoreState();
        Check.end("ForecastTest");
    }

    private static void promise38LapsesIn() {
        CourtCalendar court = Check.court("room r slots 0 7;officer o;case a filed 0 slots 1 limit 1;"
                + "case b filed 0 slots 1 limit 3;case c filed 0 slots 1 limit 3;case d filed 50 slots 1 limit 60;");
        court.plan(2, 3, 0, 0, 0);
        int[] days = {1, 2, 3, 4, 5, 99};
        int[] due = {0, 1, 1, 2, 2, 2};
        String before = Check.digest(court);
        for (int i = 0; i < days.length; i++) {
            Check.same("lapsesIn " + days[i], court.lapsesIn(days[i]), due[i]);
        }
        Check.same("nothing changes", Check.digest(court), before);
        court.pass(2);
        Check.same("lapsed ones do not count", court.lapsesIn(99), 1);
        court.adjourn(2, 0);
        Check.same("a waiting one more", court.lapsesIn(99), 2);
        Check.fails("0 days", NO_ARGUMENT, court, () -> court.lapsesIn(0));
        Check.fails("-1 days", NO_ARGUMENT, court, () -> court.lapsesIn(-1));
        Check.fails("100 days", NO_ARGUMENT, court, () -> court.lapsesIn(100));
        Check.fails("too many days", NO_ARGUMENT, court, () -> court.lapsesIn(Integer.MAX_VALUE));
        for (int times = 0; times < 6; times++) {
            court.pass(99);
        }
        Check.same("3 days on 596", court.lapsesIn(3), 0);
        Check.fails("4 days on 596", NO_ARGUMENT, court, () -> court.lapsesIn(4));
    }

    private static void promise39Plannable() {
        CourtCalendar court = Check.court("room r slots 0 3;officer o;officer p;officer q;"
                + "case a filed 0 slots 4 limit 2;case b filed 0 slots 4 limit 1;case c filed 0 slots 4 limit 2 custody;"
                + "case d filed 0 slots 2 limit 2;case e filed 0 slots 1 limit 9;case f filed 0 slots 1 limit 20;");
        court.plan(5, 14, 0, 0, 0);
        String before = Check.digest(court);
        Check.same("plannable", court.plannable(), 4);
        Check.same("nothing changes", Check.digest(court), before);
        Check.same("planAll", court.planAll(), 4);
        Check.same("none is left", court.plannable(), 0);
        Check.same("no cases", new CourtCalendar().plannable(), 0);
    }

    private static void promise40KeyOfficer() {
        CourtCalendar court = Check.court("room r slots 0 7;officer o;officer p;officer q;case a filed 0 slots 1 limit 9;"
                + "case b filed 0 slots 1 limit 9;case c filed 0 slots 1 limit 9;bar o a;bar q a;bar o b;bar q b;bar p c;bar o c;");
        String before = Check.digest(court);
        Check.same("without p two fewer", court.keyOfficer(), 1);
        Check.same("nothing changes", Check.digest(court), before);
        court.plan(0, 0, 0, 0, 1);
        Check.same("one fewer without p or q", court.keyOfficer(), 1);
        court.plan(1, 0, 1, 0, 1);
        Check.same("q alone", court.keyOfficer(), 2);
        court.planAll();
        Check.same("none is needed", court.keyOfficer(), -1);
        Check.same("no officers", Check.court("case a filed 0 slots 1 limit 1;room r slots 0 7;").keyOfficer(), -1);
    }

    private static void promise40KeyOfficerTies() {
        CourtCalendar same = Check.court("room r slots 0 7;officer o;officer p;case a filed 0 slots 1 limit 9;");
        Check.same("another one can", same.keyOfficer(), -1);
        CourtCalendar tie = Check.court("room r slots 0 7;officer n;officer o;officer p;case a filed 0 slots 1 limit 9;"
                + "case b filed 0 slots 1 limit 9;bar o a;bar p b;bar n a;bar n b;");
        Check.same("the smallest on a tie", tie.keyOfficer(), 1);
        CourtCalendar one = Check.court("room r slots 0 7;officer o;case a filed 0 slots 1 limit 9;");
        Check.same("the only one", one.keyOfficer(), 0);
        // The hearing that the absent officer has stays, and bars this officer alone.
        CourtCalendar had = Check.court("room r slots 0 7;officer o;officer p;case a filed 0 slots 1 limit 9;"
                + "case b filed 0 slots 1 limit 9;conflict a b;");
        had.plan(0, 0, 0, 0, 0);
        Check.same("who has the one cannot have the other", had.keyOfficer(), 1);
    }

    private static void promise41PrintDay() {
        CourtCalendar court = Check.court("room big slots 0 7;room small slots 0 7;officer ann;officer zed;officer li;"
                + "case one filed 0 slots 2 limit 9;case two filed 0 slots 1 limit 9;case eightlet filed 0 slots 1 limit 9;"
                + "case no filed 0 slots 1 limit 9;case far filed 0 slots 1 limit 9;");
        Check.same("none", court.printDay(1), 0);
        court.plan(0, 1, 2, 1, 0);
        court.plan(1, 1, 2, 0, 1);
        court.plan(2, 1, 0, 1, 2);
        court.plan(4, 2, 0, 0, 0);
        String due = "0 small eightlet li\n2 big two zed\n2 small one ann\n";
        Check.same("bytes", court.printDay(1), due.length());
        Check.same("output", Check.output(court), due);
        court.pass(2);
        court.adjourn(4, 0);
        Check.same("the output stays", Check.output(court), due);
        Check.same("none any more", court.printDay(2), 0);
        Check.same("output", Check.output(court), "");
        Check.same("heard", court.printDay(1), due.length());
        Check.fails("day -1", NO_ARGUMENT, court, () -> court.printDay(-1));
        Check.fails("day 600", NO_ARGUMENT, court, () -> court.printDay(600));
        Check.same("the output stays", Check.output(court), due);
        court.undo();
        Check.same("undo leaves the output", Check.output(court), due);
        Check.same("the last day", court.printDay(599), 0);
    }

    private static void promise41PrintFullDay() {
        StringBuilder text = new StringBuilder("room aaaaaaaa slots 0 7;room bbbbbbbb slots 0 7;officer aaaaaaaa;officer bbbbbbbb;");
        StringBuilder due = new StringBuilder();
        for (int i = 0; i < 12; i++) {
            text.append("case abcdefg").append((char) ('m' + i)).append(" filed 0 slots 1 limit 9;");
            due.append(i / 2).append(i % 2 == 0 ? " aaaaaaaa" : " bbbbbbbb").append(" abcdefg").append((char) ('m' + i))
                .append(i % 2 == 0 ? " aaaaaaaa\n" : " bbbbbbbb\n");
        }
        CourtCalendar court = Check.court(text.toString());
        for (int i = 11; i >= 0; i--) {
            court.plan(i, 0, i / 2, i % 2, i % 2);
        }
        Check.same("bytes", court.printDay(0), 348);
        Check.same("output", Check.output(court), due.toString());
    }

    private static void promise42OutputByte() {
        CourtCalendar court = Check.court("room r slots 0 7;officer o;case c filed 0 slots 2 limit 9;");
        Check.same("nothing yet", court.outputByte(0), -1);
        court.plan(0, 0, 3, 0, 0);
        Check.same("bytes", court.printDay(0), 8);
        int[] due = {'3', ' ', 'r', ' ', 'c', ' ', 'o', 10};
        for (int index = 0; index < due.length; index++) {
            Check.same("byte " + index, court.outputByte(index), due[index]);
        }
        Check.same("behind", court.outputByte(8), -1);
        Check.same("before", court.outputByte(-1), -1);
        Check.same("far behind", court.outputByte(Integer.MAX_VALUE), -1);
        Check.same("far before", court.outputByte(Integer.MIN_VALUE), -1);
    }

    private static CourtCalendar moved() {
        CourtCalendar court = Check.court("room r slots 0 7;officer o;officer p;witness w days 0 50;"
                + "case a filed 0 slots 2 limit 9 needs w;case b filed 0 slots 1 limit 5;case c filed 0 slots 1 limit 1;");
        court.plan(1, 2, 0, 0, 0);
        court.pass(3);
        court.plan(0, 3, 0, 0, 0);
        court.adjourn(0, 1);
        court.addHoliday(10);
        court.withdraw(0, 40);
        court.addBar(0, 2);
        return court;
    }

    private static void promise43SaveState() {
        CourtCalendar court = moved();
        String before = Check.digest(court);
        Check.same("the present day", court.saveState(), 3);
        Check.same("nothing changes", Check.digest(court), before);
        court.pass(5);
        Check.same("in place of the earlier one", court.saveState(), 8);
        court.pass(5);
        Check.same("the later one", court.restoreState(), 8);
        Check.same("no change", court.count(9), 0);
    }

    private static void promise44RestoreState() {
        CourtCalendar court = moved();
        Check.fails("nothing saved", NO_STATE, court, court::restoreState);
        court.saveState();
        String before = Check.digest(court);
        court.planAll();
        court.adjourn(0, 0);
        court.withdraw(0, 3);
        court.addHoliday(11);
        court.addBar(1, 0);
        court.printDay(2);
        Check.type(court, "cap 99;");
        court.parse();
        Check.type(court, "o");
        for (int times = 0; times < 2; times++) {
            Check.same("the present day", court.restoreState(), 3);
            Check.fails("nothing to undo", NO_STATE, court, court::undo);
            Check.same("the error stays", court.errorCode() * 10 + court.errorOffset(), 24);
            Check.same("the output stays", Check.output(court), "0 r b o\n");
            court.pass(9);
        }
        Check.same("the buffer stays", court.find(1), 0);
        court.restoreState();
        court.parse();
        Check.same("an empty text", court.count(3), 0);
        CourtCalendar again = moved();
        again.saveState();
        again.undo();
        again.undo();
        again.undo();
        again.undo();
        again.adjourn(0, 3);
        for (int changes = 0; changes < 9; changes++) {
            again.undo();
            again.planAll();
            again.withdraw(0, 3);
            again.restoreState();
            again.pass(1);
        }
        again.restoreState();
        Check.same("as saved, but for the changes", Check.digest(again), before.replace(" 3 15 7 ", " 3 15 0 "));
    }
}
