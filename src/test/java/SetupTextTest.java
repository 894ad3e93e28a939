/** Promises 1 to 8: a new object, the input buffer, the setup text and its errors, counts and names. */
public final class SetupTextTest {
    private static final String NINE_HUNDRED = " ".repeat(900);

    public static void main(String[] args) {
        promise1NewObject();
        promise2Feed();
        promise3Truncate();
        promise4Parse();
        promise4ParseStartsAnew();
        promise4NothingIsLeft();
        promise4ErrorKeepsAll();
        promises5And6Errors();
        wrongTokens();
        wrongRanges();
        wrongNames();
        tooMany();
        mostOffs();
        promise7Count();
        promise8Find();
        Check.end("SetupTextTest");
    }

    private static void promise1NewObject() {
        CourtCalendar court = new CourtCalendar();
        Check.same("NONE", CourtCalendar.NONE, -1);
        Check.same("new is as an empty text", Check.digest(court), Check.digest(Check.court("")));
        int[] counts = {0, 0, 0, 0, 0, 0, 0, 0, 15, 0, 0, 0, 0, 0};
        for (int what = 0; what < counts.length; what++) {
            Check.same("count " + what, court.count(what), counts[what]);
        }
        Check.same("lengthening 0", court.lengthening(0), 10);
        Check.same("lengthening 1", court.lengthening(1), 5);
        Check.same("lengthening 2", court.lengthening(2), 0);
        Check.same("lengthening 3", court.lengthening(3), 0);
        Check.same("errorCode", court.errorCode(), 0);
        Check.same("errorOffset", court.errorOffset(), -1);
        Check.same("outputByte", court.outputByte(0), -1);
        Check.same("buffer is empty", court.truncate(1), false);
        Check.same("fewestOfficers", court.fewestOfficers(), 0);
        Check.same("keyOfficer", court.keyOfficer(), -1);
        Check.same("planAll", court.planAll(), 0);
        Check.same("a change", court.count(9), 1);
        Check.fails("restoreState", IllegalStateException.class, court, court::restoreState);
    }

    private static void promise2Feed() {
        CourtCalendar court = new CourtCalendar();
        Check.same("feed", court.feed('c' << 24 | 'a' << 16 | 'p' << 8 | ' ', '7' << 24 | ';' << 16 | 0x2020,
                0x20202020, 0x0a0a0a0a, 0x20202020), 20);
        Check.same("parse", court.parse(), 0);
        Check.same("cap", court.count(8), 7);
        for (int calls = 1; calls <= 45; calls++) {
            Check.same("feed " + calls, court.feed(-1, 0, 0, 0, 0), calls * 20);
        }
        Check.same("feed beyond 900", court.feed(0, 0, 0, 0, 0), -1);
        Check.same("length stays", court.truncate(901), false);
        Check.same("length stays", court.truncate(881), true);
        Check.same("901 is too many", court.feed(0, 0, 0, 0, 0), -1);
        Check.same("length stays", court.truncate(882), false);
        Check.same("length stays", court.truncate(880), true);
        Check.same("900 is not", court.feed(0, 0, 0, 0, 0), 900);
        CourtCalendar full = new CourtCalendar();
        Check.type(full, "cap 9;" + NINE_HUNDRED.substring(6));
        Check.same("900 bytes", full.parse(), 0);
        Check.same("900 bytes", full.count(8), 9);
        Check.type(full, NINE_HUNDRED.substring(6) + "cap 8;");
        Check.same("the last bytes count", full.parse(), 0);
        Check.same("the last bytes count", full.count(8), 8);
    }

    private static void promise3Truncate() {
        CourtCalendar court = new CourtCalendar();
        Check.same("0 of 0", court.truncate(0), true);
        Check.same("1 of 0", court.truncate(1), false);
        Check.type(court, "cap 12;room;");
        Check.same("negative", court.truncate(-1), false);
        Check.same("13 of 12", court.truncate(13), false);
        Check.same("most", court.truncate(Integer.MAX_VALUE), false);
        Check.same("least", court.truncate(Integer.MIN_VALUE), false);
        Check.same("12 of 12", court.truncate(12), true);
        Check.same("7 of 12", court.truncate(7), true);
        Check.same("8 of 7", court.truncate(8), false);
        Check.same("parse", court.parse(), 0);
        Check.same("cap", court.count(8), 12);
    }

    private static void promise4Parse() {
        CourtCalendar court = Check.court(" \nholiday 4;room b slots\n0 5 ; officer ann off 1 1off 2 3;officer ben;"
                + "witness wil days 1 9 slots 2 5;witness zoe days 0 599;"
                + "case b filed 99 slots 4 limit 60 custody needs zoe needs wil;case zoe filed0slots1limit1;"
                + "bar ben b;conflict b zoe;lengthen 3 30;lengthen 0 0;cap 007;holiday 599;holiday 5;");
        int[] counts = {1, 2, 2, 2, 3, 1, 1, 0, 7, 0, 2, 0, 0, 0};
        for (int what = 0; what < counts.length; what++) {
            Check.same("count " + what, court.count(what), counts[what]);
        }
        Check.same("holiday", court.isWorkingDay(4), false);
        Check.same("last holiday", court.isWorkingDay(599), false);
        Check.same("off", court.isOff(0, 3), true);
        Check.same("window", court.witness(0, 2) * 10 + court.witness(0, 3), 25);
        Check.same("window without slots", court.witness(1, 2) * 10 + court.witness(1, 3), 7);
        Check.same("custody", court.matter(0, 6), 1);
        Check.same("no custody", court.matter(1, 6), 0);
        Check.same("lengthening told", court.lengthening(3), 30);
        Check.same("lengthening 0", court.lengthening(0), 0);
        Check.same("lengthening not told", court.lengthening(1), 5);
        Check.same("the buffer is empty", court.truncate(1), false);
        Check.same("an empty text", court.parse(), 0);
        Check.same("an empty text", court.count(3), 0);
        Check.same("an empty text", court.count(8), 15);
    }

    private static void promise4ParseStartsAnew() {
        String text = "room r slots 0 7;officer o off 5 5;witness w days 0 9;"
                + "case c filed 0 slots 2 limit 9 needs w;case d filed 0 slots 1 limit 5;conflict c d;bar o d;";
        CourtCalendar court = Check.court(text);
        String first = Check.digest(court);
        court.planAll();
        court.adjourn(0, 0);
        court.planNext(0);
        court.withdraw(0, 7);
        court.addHoliday(9);
        court.pass(3);
        court.printDay(0);
        court.saveState();
        Check.type(court, text);
        Check.same("parse", court.parse(), 2);
        Check.same("output stays", Check.output(court), "0 r c o\n");
        court.printDay(599);
        Check.same("all else is as at first", Check.digest(court), first);
        Check.fails("nothing to undo", IllegalStateException.class, court, court::undo);
        Check.fails("nothing saved", IllegalStateException.class, court, court::restoreState);
        Check.type(court, "officer p;officer o;");
        Check.same("parse", court.parse(), 0);
        Check.same("offs are forgotten", court.isOff(0, 5), false);
        Check.same("rooms are forgotten", court.count(0), 0);
    }

    private static void promise4NothingIsLeft() {
        String full = "holiday 0;holiday 9;lengthen 0 1;lengthen 1 2;lengthen 2 3;lengthen 3 4;cap 5;room r slots 1 2;"
                + "officer o off 1 2 off 3 4 off 5 6;witness w days 1 2 slots 3 4;"
                + "case a filed 2 slots 3 limit 4 custody needs w;case b filed 5 slots 1 limit 6;bar o a;conflict a b;";
        String plain = "room r slots 0 7;officer o;witness w days 0 9;case a filed 0 slots 1 limit 1;case b filed 0 slots 1 limit 1;";
        String due = Check.digest(Check.court(plain));
        CourtCalendar court = new CourtCalendar();
        for (int times = 0; times < 4; times++) {
            Check.type(court, full);
            Check.same("parse", court.parse(), 2);
            Check.type(court, full + "cap");
            Check.same("parse", court.parse(), -1);
            Check.type(court, plain);
            Check.same("parse", court.parse(), 2);
            Check.same("nothing is left", Check.digest(court), due);
            Check.same("parse", court.parse(), 0);
            Check.same("nothing is left", Check.digest(court), Check.digest(new CourtCalendar()));
        }
    }

    private static void promise4ErrorKeepsAll() {
        CourtCalendar court = Check.court("room r slots 0 7;officer o;case c filed 0 slots 2 limit 9;");
        court.saveState();
        court.planNext(0);
        court.pass(1);
        court.printDay(0);
        String before = Check.digest(court).replace("\n0 -1\n", "\n1 41\n");
        Check.type(court, "holiday 1;room x slots 1 1;officer y;cap x;");
        Check.same("parse", court.parse(), -1);
        Check.same("all stays", Check.digest(court), before);
        Check.same("the buffer is empty", court.truncate(1), false);
        Check.same("changes stay", court.undo(), 1);
        Check.same("the saved state stays", court.restoreState(), 0);
        Check.same("the saved state stays", court.matter(0, 5), 0);
    }

    private static void promises5And6Errors() {
        CourtCalendar court = new CourtCalendar();
        Check.type(court, "cap 61;");
        Check.same("parse", court.parse(), -1);
        Check.same("errorCode", court.errorCode(), 2);
        Check.same("errorOffset", court.errorOffset(), 4);
        Check.type(court, "cap");
        Check.same("feeding leaves the error", court.errorCode(), 2);
        Check.same("parse", court.parse(), -1);
        Check.same("errorCode", court.errorCode(), 1);
        Check.same("errorOffset", court.errorOffset(), 3);
        Check.same("an empty text", court.parse(), 0);
        Check.same("errorCode", court.errorCode(), 0);
        Check.same("errorOffset", court.errorOffset(), -1);
    }

    /** The mark ^ stands before the token at fault. */
    private static void fault(int code, String marked) {
        CourtCalendar court = new CourtCalendar();
        Check.type(court, marked.replace("^", ""));
        Check.same("parse of " + marked, court.parse(), -1);
        Check.same("errorCode of " + marked, court.errorCode(), code);
        Check.same("errorOffset of " + marked, court.errorOffset(), marked.indexOf('^'));
    }

    private static void wrongTokens() {
        String[] texts = {"^;", "^x;", "^5;", "^slots;", "^off;", "cap 1;^;", "^\0", "^\t", "^-", "^A", "^\u00e9", "^holidays 4;",
            "^abcdefghi", "holiday^", "holiday  \n^", "holiday ^x;", "holiday ^;", "holiday ^1000;", "holiday ^0001;",
            "holiday 1^", "holiday 1 ^2;", "holiday 1 ^cap 1;", "room^", "room ^3", "room ^slots", "room ^room",
            "room ^abcdefghi slots 1 1;", "room a^", "room a ^off", "room a ^b", "room a slots ^;", "room a slots 0^",
            "room a slots 0 ^;", "room a slots 0 7^", "room a slots 0 7 ^8;", "officer ^;", "officer a ^1", "officer a off^",
            "officer a off 1 ^;", "officer a off 1 2 ^3;", "officer a ^slots", "witness ^days", "witness w ^slots",
            "witness w days 1^", "witness w days 1 ^slots", "witness w days 1 2 ^needs", "witness w days 1 2 slots ^;",
            "witness w days 1 2 slots 1 ^;", "witness w days 1 2 slots 1 2 ^slots 1 2;", "case ^case", "case c ^slots",
            "case c filed ^;", "case c filed 1 ^limit", "case c filed 1 slots 1 ^;", "case c filed 1 slots 1 limit ^;",
            "case c filed 1 slots 1 limit 1 ^x", "case c filed 1 slots 1 limit 1 custody ^custody;",
            "case c filed 1 slots 1 limit 1 needs ^;", "case c filed 1 slots 1 limit 1 needs ^custody;",
            "case c filed 1 slots 1 limit 1 needs ^abcdefghi;",
            "witness w days 0 1;case c filed 1 slots 1 limit 1 needs w ^custody;", "bar ^;", "bar ^1", "bar ^off",
            "bar ^abcdefghi", "officer o;bar o ^;", "officer o;bar o ^case", "conflict ^;", "conflict ^filed", "lengthen ^a",
            "lengthen ^;", "lengthen 0 ^;", "lengthen 0 1 ^2;", "cap ^;", "cap 1 ^2;", "cap ^1234;", "cap 1^.5;", "cap 1;^/"};
        for (String text : texts) {
            fault(1, text);
        }
    }

    private static void wrongRanges() {
        String[] texts = {"holiday ^600;", "holiday ^999", "room a slots ^8 9;", "room a slots 0 ^8;", "room a slots 5 ^4;",
            "officer a off ^600 600;", "officer a off 0 ^600;", "officer a off 599 ^598;", "witness w days ^600 1;",
            "witness w days 3 ^2;", "witness w days 3 ^600;", "witness w days 3 3 slots ^8 8;",
            "witness w days 3 3 slots 7 ^6;", "witness w days 3 3 slots 7 ^8;", "case c filed ^100 slots",
            "case c filed 99 slots ^0 limit", "case c filed 99 slots ^5 limit", "case c filed 99 slots 4 limit ^0;",
            "case c filed 99 slots 4 limit ^61;", "lengthen ^4 1;", "lengthen 3 ^31;", "cap ^61;",
            "lengthen 3 1;lengthen ^4"};
        for (String text : texts) {
            fault(2, text);
        }
        Check.court("room a slots 7 7;officer a off 599 599 off 0 599;witness w days 599 599 slots 0 0;cap 60;"
                + "case c filed 99 slots 4 limit 60;case d filed 0 slots 1 limit 1;lengthen 3 30;holiday 599;");
    }

    private static void wrongNames() {
        String cases = "case c filed 0 slots 1 limit 9;case d filed 0 slots 1 limit 9;";
        String[] texts = {"room a slots 1 2;room ^a", "officer a;officer ^a;", "witness a days 0 1;witness ^a",
            cases + "case ^d", "officer o;case c filed 0 slots 1 limit 1 needs ^o;", "bar ^a", "officer o;bar ^c o",
            "officer o;bar o ^o", cases + "bar ^c c;", "conflict ^a", cases + "conflict c ^x", cases + "conflict c ^c",
            cases + "conflict c d;conflict c ^d", cases + "conflict c d;conflict d ^c",
            cases + "officer o;bar o c;bar o d;bar o ^c;", "holiday 3;holiday 4;holiday ^3;", "lengthen 1 5;lengthen ^1 ;",
            "cap 1;^cap", "cap 1;^cap 99;", "witness w days 0 1;case c filed 0 slots 1 limit 1 needs w needs ^w",
            "case c filed 0 slots 1 limit 1 needs ^w;witness w days 0 1;", cases + "bar ^o c;officer o;"};
        for (String text : texts) {
            fault(3, text);
        }
        Check.court(cases + "room c slots 0 0;officer c;witness c days 0 0;bar c c;officer d;bar d c;bar c d;"
                + "lengthen 0 1;lengthen 1 1;lengthen 2 1;lengthen 3 1;conflict c d;room zzzzzzzz slots 0 0;");
    }

    private static void tooMany() {
        String[] texts = {Check.many("holiday %;", 20) + "^holiday", Check.many("holiday %;", 20) + "^holiday 600",
            Check.many("room # slots 0 0;", 3) + "^room", Check.many("officer #;", 6) + "^officer a;",
            Check.many("witness # days 0 0;", 12) + "^witness 3", Check.many("case # filed 0 slots 1 limit 1;", 12) + "^case a",
            "officer o off 0 0 off 0 0 off 0 0 ^off 0 0;",
            Check.many("witness # days 0 0;", 5) + "case c filed 0 slots 1 limit 1" + Check.many(" needs #", 4) + " ^needs e;",
            Check.many("witness # days 0 0;", 5) + "case c filed 0 slots 1 limit 1 custody" + Check.many(" needs #", 4) + "\n^needs a"};
        for (String text : texts) {
            fault(4, text);
        }
        CourtCalendar court = Check.court(Check.many("holiday %;", 20) + Check.many("room # slots 0 0;", 3) + Check.many("officer #;", 6)
                + Check.many("witness # days 0 0;", 12) + Check.many("case # filed 0 slots 1 limit 1;", 4)
                + "case x filed 0 slots 1 limit 1 custody" + Check.many(" needs #", 4) + ";");
        Check.same("most holidays", court.count(4), 20);
        Check.same("most rooms", court.count(0), 3);
        Check.same("most officers", court.count(1), 6);
        Check.same("most witnesses", court.count(2), 12);
        Check.same("most needs", court.matter(4, 8), 4);
        Check.same("most cases", Check.court(Check.many("case # filed 0 slots 1 limit 1;", 12)).count(3), 12);
    }

    private static void mostOffs() {
        CourtCalendar court = Check.court(Check.many("officer # off %0 %1 off %3 %4 off %6 %7;", 6));
        for (int officer = 0; officer < 6; officer++) {
            boolean[] due = {true, true, false, true, true, false, true, true, false, false};
            for (int i = 0; i < 10; i++) {
                Check.same("isOff", court.isOff(officer, officer * 10 + i), due[i]);
            }
            Check.same("isOff", court.isOff(officer, officer < 5 ? 50 : 40), false);
        }
    }

    private static void promise7Count() {
        CourtCalendar court = Check.court("room r slots 0 7;room s slots 0 7;officer o;officer p;officer q;"
                + "witness w days 0 9;case a filed 0 slots 1 limit 1;case b filed 0 slots 1 limit 9;"
                + "case c filed 0 slots 1 limit 9;case d filed 0 slots 1 limit 9;case e filed 0 slots 1 limit 9;conflict a b;conflict c b;"
                + "bar o a;bar p a;bar o b;holiday 8;holiday 6;cap 33;");
        court.plan(1, 0, 0, 0, 1);
        court.plan(2, 7, 0, 0, 2);
        court.plan(3, 2, 0, 0, 2);
        court.pass(3);
        court.addBar(2, 3);
        court.addHoliday(9);
        int[] counts = {2, 3, 1, 5, 3, 4, 2, 3, 33, 6, 1, 1, 2, 1};
        for (int what = 0; what < counts.length; what++) {
            Check.same("count " + what, court.count(what), counts[what]);
        }
        Check.same("count -1", court.count(-1), -1);
        Check.same("count 14", court.count(14), -1);
        Check.same("count of the least", court.count(Integer.MIN_VALUE), -1);
    }

    private static int found(CourtCalendar court, String name, int kind) {
        Check.type(court, name);
        int number = court.find(kind);
        Check.same("the buffer is empty after " + name, court.truncate(1), false);
        return number;
    }

    private static void promise8Find() {
        CourtCalendar court = Check.court("room big slots 0 5;room small slots 2 3;officer ann;officer big;"
                + "witness wil days 1 9;witness abcdefgh days 0 1;case one filed 0 slots 2 limit 5;case big filed 0 slots 1 limit 1;");
        Check.same("room", found(court, "small", 0), 1);
        Check.same("officer", found(court, "ann", 1), 0);
        Check.same("one name of several kinds", found(court, "big", 0), 0);
        Check.same("one name of several kinds", found(court, "big", 1), 1);
        Check.same("one name of several kinds", found(court, "big", 3), 1);
        Check.same("eight letters", found(court, "abcdefgh", 2), 1);
        Check.same("nine letters", found(court, "abcdefghi", 2), -1);
        Check.same("a zero before eight letters", found(court, "\0abcdefgh", 2), -1);
        Check.same("another kind", found(court, "wil", 3), -1);
        Check.same("unknown", found(court, "wi", 2), -1);
        Check.same("empty", found(court, "", 2), -1);
        Check.same("a space behind", found(court, "wil ", 2), -1);
        Check.same("a zero before", found(court, "\0wil", 2), -1);
        Check.same("capitals", found(court, "WIL", 2), -1);
        Check.type(court, "ann");
        Check.fails("kind -1", IllegalArgumentException.class, court, () -> court.find(-1));
        Check.fails("kind 4", IllegalArgumentException.class, court, () -> court.find(4));
        Check.same("the buffer stays", court.truncate(3), true);
        Check.same("the buffer stays", court.find(1), 0);
    }
}
