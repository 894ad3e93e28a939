/** Promises 1 to 8 and the setup text: each boundary that the document names, by a test of its own. */
public final class TextEdgesTest {
    private static final String[] QUOTED = {"holiday", "room", "slots", "officer", "off", "witness", "days", "case", "filed",
        "limit", "custody", "needs", "bar", "conflict", "lengthen", "cap"};
    private static final String[] KIND = {"room", "officer", "witness", "case"};
    private static final String[] REST = {" slots 0 0", "", " days 0 0", " filed 0 slots 1 limit 1"};
    private static final int[] MOST_OF_KIND = {3, 6, 12, 12};
    private static final String TWO_CASES = "case c filed 0 slots 1 limit 9;case d filed 0 slots 1 limit 9;";
    private static final String FIVE_WITNESSES = "witness v days 0 0;witness w days 0 0;witness x days 0 0;witness y days 0 0;"
        + "witness z days 0 0;";

    private static final String CHANGED = "holiday 6;lengthen 0 1;lengthen 1 2;lengthen 2 3;lengthen 3 4;cap 5;"
        + Check.many("room # slots 1 6;", 3) + Check.many("officer # off 1 2;", 6) + Check.many("witness # days 1 9;", 12)
        + Check.many("case # filed 3 slots 2 limit 9;", 10) + "case y filed 0 slots 1 limit 1;"
        + "case z filed 3 slots 2 limit 9 custody needs l;bar f z;conflict z a;";

    public static void main(String[] args) {
        newObjectIsAsAnEmptyText();
        newObjectHasAnEmptyBuffer();
        feedPutsEachByteInItsPlace();
        feedTakesUpTo900();
        feedRefusedChangesNothing();
        truncateTakesNoneToAll();
        parseTakes900Bytes();
        parseTakesNothing();
        parseLeavesBytesBehindTheLengthAlone();
        everyNumberOfEveryRange();
        everyRoomSpan();
        offSpans();
        windowSpans();
        casesAsTold();
        lengthensAsTold();
        capAsTold();
        mostOfEachKind();
        mostHolidays();
        mostOffsOfEachOfficer();
        mostNeedsOfACase();
        namesOfOneToEightLetters();
        namesAreNotQuotedWords();
        namesOfOneKindDiffer();
        namesMustBeToldBefore();
        numbersOfOneToThreeDigits();
        onceEach();
        conflictsOfOneCase();
        everyByteBetweenTokens();
        everyByteAlone();
        tokensWithoutSpaces();
        offsetIsTheLengthIfMoreIsRequired();
        firstErrorFromTheLeft();
        smallestCodeOfAToken();
        everyPrefixAndEveryChangedByte();
        parseMakesAllAsAtFirst();
        parseKeepsTheOutput();
        parseWithAnErrorKeepsAll();
        errorOfTheLatestParse();
        countOfEachWhat();
        findTakesKinds();
        findTakesTheWholeContent();
        findEmptiesTheBuffer();
        findTheLastOfEachKind();
        Check.end("TextEdgesTest");
    }

    /** The answer of parse, the error code and the error offset. */
    private static String verdict(String text) {
        CourtCalendar court = new CourtCalendar();
        Check.type(court, text);
        return court.parse() + " " + court.errorCode() + " " + court.errorOffset();
    }

    private static void takes(String text) {
        Check.same("errorCode and offset of " + text, verdict(text).replaceFirst("^[0-9]+ ", ""), "0 -1");
    }

    /** The mark ^ stands before the token at fault. */
    private static void refuses(int code, String marked) {
        Check.same("parse of " + marked, verdict(marked.replace("^", "")), "-1 " + code + " " + marked.indexOf('^'));
    }

    // ---- promise 1

    private static void newObjectIsAsAnEmptyText() {
        CourtCalendar parsed = new CourtCalendar();
        Check.same("parse", parsed.parse(), 0);
        Check.same("a new object", Check.drained(new CourtCalendar()), Check.drained(parsed));
        Check.refused("undo", IllegalStateException.class, CourtCalendar::new, (court, none) -> court.undo());
        Check.refused("restoreState", IllegalStateException.class, CourtCalendar::new, (court, none) -> court.restoreState());
    }

    private static void newObjectHasAnEmptyBuffer() {
        CourtCalendar court = new CourtCalendar();
        Check.same("length", Check.bufferLength(court), 0);
        Check.same("the first feed", court.feed(0, 0, 0, 0, 0), 20);
    }

    // ---- promises 2 and 3

    private static void feedPutsEachByteInItsPlace() {
        for (int place = 0; place < 20; place++) {
            for (int value = 128; value <= 255; value += 127) {
                int[] five = {0x20202020, 0x20202020, 0x20202020, 0x20202020, 0x20202020};
                int shift = 24 - 8 * (place % 4);
                five[place / 4] = five[place / 4] & ~(255 << shift) | value << shift;
                CourtCalendar court = new CourtCalendar();
                Check.same("feed", court.feed(five[0], five[1], five[2], five[3], five[4]), 20);
                Check.same("parse", court.parse(), -1);
                Check.same("the place of byte " + place, court.errorOffset(), place);
            }
        }
    }

    private static CourtCalendar holding(int length) {
        CourtCalendar court = new CourtCalendar();
        for (int fed = 0; fed < length; fed += 20) {
            court.feed(0x20202020, 0x20202020, 0x20202020, 0x20202020, 0x20202020);
        }
        Check.same("truncate", court.truncate(length), true);
        return court;
    }

    private static void feedTakesUpTo900() {
        for (int length = 840; length <= 900; length++) {
            Check.same("feed behind " + length, holding(length).feed(0, 0, 0, 0, 0), length <= 880 ? length + 20 : -1);
        }
    }

    private static void feedRefusedChangesNothing() {
        for (int length = 881; length <= 900; length++) {
            CourtCalendar court = holding(length);
            Check.same("refused", court.feed(-1, -1, -1, -1, -1), -1);
            Check.same("the length stays", Check.bufferLength(court), length);
            Check.same("the bytes stay", court.parse(), 0);
        }
    }

    private static void truncateTakesNoneToAll() {
        for (int length : new int[] {0, 1, 20, 33, 899, 900}) {
            for (int shorter = 0; shorter <= length; shorter++) {
                CourtCalendar court = holding(length);
                Check.same("truncate " + length + " to " + shorter, court.truncate(shorter), true);
                Check.same("length", Check.bufferLength(court), shorter);
            }
            for (int wrong : new int[] {-1, length + 1, length + 20, 901, Integer.MIN_VALUE, Integer.MAX_VALUE}) {
                CourtCalendar court = holding(length);
                Check.same("truncate " + length + " to " + wrong, court.truncate(wrong), false);
                Check.same("length", Check.bufferLength(court), length);
            }
        }
    }

    // ---- the length of the text

    private static void parseTakes900Bytes() {
        String spaces = " ".repeat(900);
        Check.same("900 spaces", verdict(spaces), "0 0 -1");
        Check.same("a statement at the end", verdict(spaces.substring(6) + "cap 5;"), "0 0 -1");
        Check.same("a word at the end", verdict(spaces.substring(3) + "cap"), "-1 1 900");
        Check.same("a number at the end", verdict(spaces.substring(5) + "cap 5"), "-1 1 900");
        Check.same("a wrong last byte", verdict(spaces.substring(1) + "!"), "-1 1 899");
    }

    private static void parseTakesNothing() {
        Check.same("no bytes", verdict(""), "0 0 -1");
        Check.same("a space", verdict(" "), "0 0 -1");
        Check.same("a line feed", verdict("\n"), "0 0 -1");
        Check.same("a semicolon", verdict(";"), "-1 1 0");
    }

    /** What truncate cuts off is still in no token. */
    private static void parseLeavesBytesBehindTheLengthAlone() {
        String[] texts = {"holida^y", "cap 5^0;", "room a slots 0 7^;", "holiday 1;cap 10^ ;", "officer a^ ;"};
        String[] due = {"-1 1 0", "-1 1 5", "-1 1 16", "-1 1 16", "-1 1 9"};
        for (int i = 0; i < texts.length; i++) {
            CourtCalendar court = new CourtCalendar();
            Check.type(court, texts[i].replace("^", ""));
            court.truncate(texts[i].indexOf('^'));
            Check.same("parse of " + texts[i], court.parse() + " " + court.errorCode() + " " + court.errorOffset(), due[i]);
        }
    }

    // ---- numbers

    /** # stands for the number; from 0 to 1000, just those from least to most are taken. */
    private static void numbers(String statement, int least, int most) {
        for (int number = 0; number <= 1000; number++) {
            int code = number > 999 ? 1 : number < least || number > most ? 2 : 0;
            String due = code == 0 ? "0 -1" : code + " " + statement.indexOf('#');
            String got = verdict(statement.replace("#", String.valueOf(number))).replaceFirst("^\\S+ ", "");
            Check.same(number + " in " + statement, got, due);
        }
    }

    private static void everyNumberOfEveryRange() {
        numbers("holiday #;", 0, 599);
        numbers("room a slots # 7;", 0, 7);
        numbers("room a slots 0 #;", 0, 7);
        numbers("room a slots 4 #;", 4, 7);
        numbers("officer a off # 599;", 0, 599);
        numbers("officer a off 0 #;", 0, 599);
        numbers("officer a off 300 #;", 300, 599);
        numbers("officer a off 1 2 off 300 #;", 300, 599);
        numbers("witness w days # 599;", 0, 599);
        numbers("witness w days 0 #;", 0, 599);
        numbers("witness w days 300 #;", 300, 599);
        numbers("witness w days 9 9 slots # 7;", 0, 7);
        numbers("witness w days 9 9 slots 0 #;", 0, 7);
        numbers("witness w days 9 9 slots 4 #;", 4, 7);
        numbers("case c filed # slots 1 limit 1;", 0, 99);
        numbers("case c filed 0 slots # limit 1;", 1, 4);
        numbers("case c filed 0 slots 1 limit #;", 1, 60);
        numbers("lengthen # 0;", 0, 3);
        numbers("lengthen 0 #;", 0, 30);
        numbers("cap #;", 0, 60);
    }

    /** A hearing of each length is in the room just if none of its slots is before the first or behind the last one. */
    private static void everyRoomSpan() {
        for (int first = 0; first < 8; first++) {
            for (int last = first; last < 8; last++) {
                CourtCalendar court = Check.court("room r slots " + first + " " + last + ";officer o;"
                        + Check.many("case # filed 0 slots 1 limit 1;", 4).replace("b filed 0 slots 1", "b filed 0 slots 2")
                            .replace("c filed 0 slots 1", "c filed 0 slots 3").replace("d filed 0 slots 1", "d filed 0 slots 4"));
                for (int number = 0; number < 4; number++) {
                    for (int slot = 0; slot < 8; slot++) {
                        int due = slot >= first && slot + number <= last ? 0 : 3;
                        Check.same("slot " + slot + " of " + (number + 1), court.problem(number, 0, slot, 0, 0), due);
                    }
                }
            }
        }
    }

    private static void offSpans() {
        int[][] spans = {{0, 0}, {0, 599}, {599, 599}, {3, 3}, {3, 8}, {0, 1}, {598, 599}};
        for (int[] span : spans) {
            CourtCalendar court = Check.court("officer o;officer p off " + span[0] + " " + span[1] + ";");
            for (int day = 0; day < 600; day++) {
                Check.same("off on " + day, court.isOff(1, day), day >= span[0] && day <= span[1]);
                Check.same("never off", court.isOff(0, day), false);
            }
        }
    }

    private static void windowSpans() {
        CourtCalendar court = Check.court("witness a days 0 0 slots 0 0;witness b days 599 599 slots 7 7;witness c days 0 599 slots 0 7;"
                + "witness d days 5 6 slots 2 3;witness e days 4 9;");
        int[][] due = {{0, 0, 0, 0}, {599, 599, 7, 7}, {0, 599, 0, 7}, {5, 6, 2, 3}, {4, 9, 0, 7}};
        for (int witness = 0; witness < due.length; witness++) {
            for (int what = 0; what < 4; what++) {
                Check.same("witness " + witness + " " + what, court.witness(witness, what), due[witness][what]);
            }
        }
    }

    private static void casesAsTold() {
        CourtCalendar court = Check.court("case a filed 0 slots 1 limit 1;case b filed 99 slots 4 limit 60 custody;");
        int[][] due = {{0, 1, 1, 0}, {99, 4, 60, 1}};
        int[] whats = {0, 1, 2, 6};
        for (int number = 0; number < 2; number++) {
            for (int i = 0; i < 4; i++) {
                Check.same("matter " + whats[i], court.matter(number, whats[i]), due[number][i]);
            }
        }
    }

    private static void lengthensAsTold() {
        int[] without = {10, 5, 0, 0};
        for (int reason = 0; reason < 4; reason++) {
            for (int days : new int[] {0, 1, 30}) {
                CourtCalendar court = Check.court("lengthen " + reason + " " + days + ";");
                for (int other = 0; other < 4; other++) {
                    Check.same("lengthening " + other, court.lengthening(other), other == reason ? days : without[other]);
                }
            }
        }
        for (int reason = 0; reason < 4; reason++) {
            Check.same("without a statement", Check.court("").lengthening(reason), without[reason]);
        }
    }

    private static void capAsTold() {
        Check.same("without a statement", Check.court("").count(8), 15);
        for (int cap : new int[] {0, 1, 59, 60}) {
            Check.same("cap", Check.court("cap " + cap + ";").count(8), cap);
        }
    }

    // ---- as many as there may be

    private static void mostOfEachKind() {
        for (int kind = 0; kind < 4; kind++) {
            String one = KIND[kind] + " #" + REST[kind] + ";";
            for (int number = 0; number <= MOST_OF_KIND[kind]; number++) {
                Check.same("so many of " + one, Check.court(Check.many(one, number)).count(kind), number);
            }
            refuses(4, Check.many(one, MOST_OF_KIND[kind]) + "^" + KIND[kind]);
            refuses(4, Check.many(one, MOST_OF_KIND[kind]) + "^" + KIND[kind] + " zz" + REST[kind] + ";");
            refuses(4, Check.many(one, MOST_OF_KIND[kind]) + "^" + KIND[kind] + " a" + REST[kind] + ";");
            refuses(4, Check.many(one, MOST_OF_KIND[kind]) + "\n^" + KIND[kind] + " 1");
        }
    }

    private static void mostHolidays() {
        for (int number = 0; number <= 20; number++) {
            Check.same("so many holidays", Check.court(Check.many("holiday %;", number)).count(4), number);
        }
        refuses(4, Check.many("holiday %;", 20) + "^holiday 20;");
        refuses(4, Check.many("holiday %;", 20) + "^holiday 0;");
        refuses(4, Check.many("holiday %;", 20) + "cap 1;^holiday 600;");
    }

    private static void mostOffsOfEachOfficer() {
        for (int times = 0; times <= 3; times++) {
            CourtCalendar court = Check.court(Check.many("officer #" + Check.many(" off 5% 5%", times) + ";", 6));
            for (int officer = 0; officer < 6; officer++) {
                for (int time = 0; time < 3; time++) {
                    Check.same("off the " + time + "th time", court.isOff(officer, 50 + time), time < times);
                }
            }
        }
        refuses(4, "officer o off 1 1 off 2 2 off 3 3 ^off 4 4;");
        refuses(4, "officer o off 1 1 off 1 1 off 1 1 ^off");
        refuses(4, Check.many("officer # off 1 1 off 2 2 off 3 3;", 5) + "officer z off 1 1 off 2 2 off 3 3^off 1;");
    }

    private static void mostNeedsOfACase() {
        String start = FIVE_WITNESSES + "case c filed 0 slots 1 limit 1";
        String[] needs = {"", " needs v", " needs w", " needs x", " needs y"};
        StringBuilder all = new StringBuilder(start);
        for (int number = 0; number <= 4; number++) {
            all.append(needs[number]);
            Check.same("so many witnesses", Check.court(all + ";").matter(0, 8), number);
            refuses(number < 4 ? 3 : 4, all + (number < 4 ? " needs ^q" : " ^needs q"));
        }
        refuses(4, all + " ^needs z;");
        refuses(4, all + " ^needs v;");
        Check.same("of a custody case", Check.court(start + " custody needs v needs w needs x needs z;").matter(0, 8), 4);
        refuses(4, start + " custody needs v needs w needs x needs y\n^needs z;");
    }

    // ---- names

    private static void namesOfOneToEightLetters() {
        String letters = "zyxwvuts";
        for (int kind = 0; kind < 4; kind++) {
            for (int length = 1; length <= 8; length++) {
                String name = letters.substring(0, length);
                CourtCalendar court = Check.court(KIND[kind] + " " + name + REST[kind] + ";");
                Check.type(court, name);
                Check.same("find " + name, court.find(kind), 0);
            }
            refuses(1, KIND[kind] + " ^" + letters + "r" + REST[kind] + ";");
            refuses(1, KIND[kind] + " ^" + "a".repeat(17) + REST[kind] + ";");
            refuses(1, KIND[kind] + " ^" + "a".repeat(256) + REST[kind] + ";");
        }
        // Nine letters are too long also where the latter eight of them are a name that was told.
        refuses(1, "case abcdefgh filed 0 slots 1 limit 1;officer o;bar o ^xabcdefgh;");
        refuses(1, "witness abcdefgh days 0 0;case c filed 0 slots 1 limit 1 needs ^xabcdefgh;");
        refuses(1, "case abcdefgh filed 0 slots 1 limit 1;conflict ^abcdefghi");
        refuses(1, "officer abcdefgh;bar ^xabcdefgh");
        refuses(1, "^xconflict a b;");
        refuses(1, "^conflictx a b;");
    }

    private static void namesAreNotQuotedWords() {
        for (String word : QUOTED) {
            for (int kind = 0; kind < 4; kind++) {
                refuses(1, KIND[kind] + " ^" + word + REST[kind] + ";");
                takes(KIND[kind] + " " + word.substring(1) + REST[kind] + ";");
                takes(KIND[kind] + " " + word.substring(0, word.length() - 1) + REST[kind] + ";");
                takes(KIND[kind] + " " + (word + "s").substring(Math.max(0, word.length() - 7)) + REST[kind] + ";");
            }
            refuses(1, "bar ^" + word);
            refuses(1, "officer o;bar o ^" + word);
            refuses(1, "conflict ^" + word);
            refuses(1, TWO_CASES + "conflict c ^" + word);
            refuses(1, "case c filed 0 slots 1 limit 1 needs ^" + word);
        }
        for (String word : new String[] {"text", "statemen", "name", "number"}) {
            takes("officer " + word + ";");
        }
    }

    private static void namesOfOneKindDiffer() {
        for (int kind = 0; kind < 4; kind++) {
            String one = KIND[kind] + " #" + REST[kind] + ";";
            for (int other = 0; other < MOST_OF_KIND[kind] - 1; other++) {
                String again = KIND[kind] + " ^" + (char) ('a' + other) + REST[kind] + ";";
                refuses(3, Check.many(one, MOST_OF_KIND[kind] - 1) + again);
            }
            takes(Check.many(one, MOST_OF_KIND[kind] - 1) + KIND[kind] + " aa" + REST[kind] + ";");
        }
        takes(Check.many("room # slots 0 0;", 3) + Check.many("officer #;", 6) + Check.many("witness # days 0 0;", 12)
            + Check.many("case # filed 0 slots 1 limit 1;", 12));
    }

    private static void namesMustBeToldBefore() {
        takes("witness w days 0 0;case c filed 0 slots 1 limit 1 needs w;");
        refuses(3, "case c filed 0 slots 1 limit 1 needs ^w;witness w days 0 0;");
        refuses(3, "room w slots 0 0;officer w;case w filed 0 slots 1 limit 1;case c filed 0 slots 1 limit 1 needs ^w;");
        takes("officer o;case c filed 0 slots 1 limit 1;bar o c;");
        refuses(3, "case c filed 0 slots 1 limit 1;bar ^o c;officer o;");
        refuses(3, "officer o;bar o ^c;case c filed 0 slots 1 limit 1;");
        refuses(3, "room o slots 0 0;witness o days 0 0;case o filed 0 slots 1 limit 1;bar ^o o;");
        refuses(3, "room o slots 0 0;witness o days 0 0;officer o;bar o ^o;");
        takes(TWO_CASES + "conflict d c;");
        refuses(3, "case c filed 0 slots 1 limit 1;conflict ^d c;");
        refuses(3, "case c filed 0 slots 1 limit 1;conflict c ^d;case d filed 0 slots 1 limit 1;");
        refuses(3, "room d slots 0 0;witness d days 0 0;officer d;case c filed 0 slots 1 limit 1;conflict c ^d;");
        refuses(3, TWO_CASES + "conflict c ^dd;");
        refuses(3, "case cc filed 0 slots 1 limit 1;conflict ^c cc;");
    }

    private static void numbersOfOneToThreeDigits() {
        Check.same("one digit", Check.court("cap 7;").count(8), 7);
        Check.same("two digits", Check.court("cap 07;").count(8), 7);
        Check.same("three digits", Check.court("cap 007;").count(8), 7);
        Check.same("three zeros", Check.court("cap 000;").count(8), 0);
        refuses(1, "cap ^0007;");
        refuses(1, "cap ^0000;");
        refuses(1, "holiday ^1000;");
        refuses(1, "holiday ^4294967297;");
        refuses(1, "cap ^" + "0".repeat(300) + ";");
        refuses(2, "holiday ^999;");
    }

    // ---- what can be told once

    private static void onceEach() {
        refuses(3, "holiday 0;holiday ^0;");
        refuses(3, "holiday 599;holiday 1;holiday ^599");
        refuses(3, "holiday 7;holiday ^007;");
        refuses(3, Check.many("holiday %;", 19) + "holiday ^18;");
        takes("holiday 0;holiday 32;holiday 64;holiday 599;holiday 567;");
        refuses(3, "cap 0;^cap 0;");
        refuses(3, "cap 60;holiday 1;^cap;");
        refuses(1, "^lengthens 0 1;");
        for (int reason = 0; reason < 4; reason++) {
            refuses(3, Check.many("lengthen % 1;", 4) + "lengthen ^" + reason + " 1;");
            refuses(3, "lengthen " + reason + " 0;lengthen ^" + reason + " 1;");
        }
        refuses(3, "officer o;officer p;" + TWO_CASES + "bar o c;bar p c;bar o d;bar p d;bar o ^c;");
        refuses(3, "officer o;officer p;" + TWO_CASES + "bar o c;bar p c;bar o d;bar p d;bar p ^d;");
        refuses(3, TWO_CASES + "conflict c d;conflict c ^d;");
        refuses(3, TWO_CASES + "conflict c d;conflict d ^c;");
        refuses(3, TWO_CASES + "conflict c ^c;");
        refuses(3, TWO_CASES + "conflict d ^d;");
        refuses(3, FIVE_WITNESSES + "case c filed 0 slots 1 limit 1 needs v needs ^v;");
        refuses(3, FIVE_WITNESSES + "case c filed 0 slots 1 limit 1 needs v needs w needs x needs ^v;");
        takes(FIVE_WITNESSES + "case c filed 0 slots 1 limit 1 needs v;case d filed 0 slots 1 limit 1 needs v;");
    }

    private static void conflictsOfOneCase() {
        String[] others = {"b", "c", "d", "e", "f", "g", "h", "i", "j", "k", "l"};
        StringBuilder all = new StringBuilder(Check.many("case # filed 0 slots 1 limit 1;", 12));
        for (int i = 0; i < others.length; i++) {
            all.append(i % 2 == 0 ? "conflict a " + others[i] : "conflict " + others[i] + " a").append(';');
            CourtCalendar court = Check.court(all.toString());
            Check.same("conflicts", court.count(6), i + 1);
            Check.same("of a", court.matter(0, 9), i + 1);
            Check.same("of the other one", court.matter(i + 1, 9), 1);
            refuses(3, all + "conflict a ^b;");
            refuses(3, all + "conflict " + others[i] + " ^a;");
        }
    }

    // ---- bytes and tokens

    private static void everyByteBetweenTokens() {
        for (int value = 0; value < 256; value++) {
            char sign = (char) value;
            boolean digit = sign >= '0' && sign <= '9';
            boolean letter = sign >= 'a' && sign <= 'z';
            String due = sign == ' ' || sign == '\n' ? "0 0 -1" : digit ? sign == '0' ? "0 0 -1" : "-1 2 3" : letter ? "-1 1 0" : "-1 1 3";
            String text = "cap" + sign + (digit ? "61;" : "5;");
            Check.same("byte " + value + " between", verdict(digit && sign == '0' ? "cap05;" : text), due);
        }
    }

    private static void everyByteAlone() {
        for (int value = 0; value < 256; value++) {
            boolean blank = value == ' ' || value == '\n';
            Check.same("byte " + value, verdict("cap 1;" + (char) value), blank ? "0 0 -1" : "-1 1 6");
            Check.same("byte " + value + " behind a word", verdict("cap 1;holiday" + (char) value).startsWith("-1 1 "), true);
        }
    }

    private static void tokensWithoutSpaces() {
        takes("holiday4;room a slots0 7;officer a off1 2off3 4;case a filed0slots1limit1custody;lengthen1 5;cap9;");
        takes(" \n\n  holiday\n4 \n;\n");
        refuses(1, "room ^1a slots 0 7;");
        refuses(1, "^rooma slots 0 7;");
        refuses(1, "case c filed 0 slots 1 limit 1 ^custodyneeds");
        refuses(2, "officer a off 1 ^0;");
    }

    private static void offsetIsTheLengthIfMoreIsRequired() {
        String[] tokens = {"case", "c", "filed", "0", "slots", "1", "limit", "1", "custody", "needs", "w"};
        StringBuilder all = new StringBuilder("witness w days 0 0;");
        for (String token : tokens) {
            all.append(' ').append(token);
            refuses(1, all + "^");
            refuses(1, all + " ^");
            refuses(1, all + "\n \n^");
        }
        takes(all + ";");
        for (String text : new String[] {"holiday", "room", "room a slots 0", "officer", "officer a", "officer a off", "witness w days 0",
            "witness w days 0 0", "witness w days 0 0 slots 1", "bar", "conflict", "lengthen", "lengthen 0", "lengthen 0 1", "cap", "cap 1"}) {
            refuses(1, text + "^");
            refuses(1, text + "  ^");
        }
    }

    private static void firstErrorFromTheLeft() {
        refuses(2, "cap ^61;cap 61;!");
        refuses(1, "cap ^x;holiday 600;");
        refuses(3, "cap 1;^cap 61;!");
        refuses(2, "holiday ^600 !");
        refuses(4, Check.many("officer #;", 6) + "^officer off 1000");
        refuses(3, "room a slots 0 7;room ^a slots 8 8;");
        refuses(3, "lengthen 0 0;lengthen ^0 31;");
    }

    private static void smallestCodeOfAToken() {
        // Too long (1) and out of range (2), quoted or too long (1) and not told (3), at a wrong place (1) and once too often (3, 4).
        refuses(1, "holiday ^6000;");
        refuses(1, "cap ^1000;");
        refuses(1, "room a slots 5 ^0004;");
        refuses(1, "bar ^slots");
        refuses(1, "bar ^abcdefghi");
        refuses(1, "lengthen 0 1;lengthen ^0000 1;");
        refuses(1, "cap 1 ^cap 2;");
        refuses(1, Check.many("holiday %;", 19) + "holiday 19 ^holiday 20;");
        refuses(1, "officer o off 0 0 off 0 0 off 0 ^off 0 0;");
        refuses(2, "lengthen 3 1;lengthen ^4 1;");
    }

    private static void everyPrefixAndEveryChangedByte() {
        String text = "holiday 7;room a slots 0 7; officer b off 1 2off 3 4;officer cc;witness d days 5 60 slots 1 6;\n"
            + "witness e days 0 599;case f filed 9 slots 4 limit 60 custody needs d needs e;case gg filed 0 slots 1 limit 1;"
            + "bar b f;bar cc gg;conflict f gg;lengthen 0 30;lengthen 3 0;cap 60;";
        for (int at = 0; at <= text.length(); at++) {
            alike(text.substring(0, at));
            alike(text.substring(at));
            for (String sign : new String[] {"", " ", ";", "0", "9", "a", "f", "\n", "\0", "\u00ff", "A"}) {
                alike(text.substring(0, at) + sign + text.substring(Math.min(at + 1, text.length())));
                alike(text.substring(0, at) + sign + text.substring(at));
            }
        }
    }

    /** The program and the reference say the same of a text. */
    private static void alike(String text) {
        Reference reference = new Reference();
        for (int start = 0; start < text.length(); start += 20) {
            int[] five = new int[5];
            for (int i = start; i < Math.min(start + 20, text.length()); i++) {
                five[(i - start) / 4] |= text.charAt(i) << 24 - 8 * (i % 4);
            }
            reference.feed(five);
        }
        reference.truncate(text.length());
        Check.same("parse of " + text, verdict(text), reference.parse() + " " + reference.errorCode() + " " + reference.errorOffset());
    }

    // ---- promises 4 to 6

    /** As much as there may be, and changed in each way. */
    private static CourtCalendar changed() {
        CourtCalendar court = Check.court(CHANGED);
        court.pass(3);
        court.plan(11, 3, 1, 2, 4);
        court.adjourn(11, 0);
        court.planAll();
        court.withdraw(11, 9);
        court.addHoliday(599);
        court.addBar(0, 11);
        court.pass(1);
        return court;
    }

    private static void parseMakesAllAsAtFirst() {
        String[] texts = {"", Check.many("room # slots 0 7;", 3) + Check.many("officer #;", 6) + Check.many("witness # days 0 9;", 12)
            + Check.many("case # filed 0 slots 1 limit 1;", 12), "case a filed 0 slots 1 limit 9;cap 60;"};
        for (String text : texts) {
            // What an earlier text told must not come back with a later one, nor what a text with an error told.
            for (int times = 1; times <= 4; times++) {
                CourtCalendar court = changed();
                court.saveState();
                for (int i = 1; i < times; i++) {
                    Check.type(court, i == 3 ? CHANGED + "!" : text);
                    court.parse();
                }
                Check.type(court, text);
                Check.same("parse", court.parse(), Check.court(text).count(3));
                isAsAtFirst(court, text);
            }
        }
    }

    private static void isAsAtFirst(CourtCalendar court, String text) {
        Check.same("the present day", court.count(7), 0);
        Check.same("all cases are waiting", court.count(10), court.count(3));
        Check.same("nothing can be undone", court.count(9), 0);
        Check.same("no state is saved", Check.outcome(court::restoreState), "IllegalStateException");
        for (int officer = 0; officer < court.count(1); officer++) {
            Check.same("no load", court.load(officer), 0);
            Check.same("not off", court.isOff(officer, 1), false);
        }
        Check.type(court, text + "lengthen 0 1;lengthen 1 1;lengthen 2 1;lengthen 3 1;holiday 6;");
        Check.same("lengthenings and holidays can be told", court.parse(), court.count(3));
        Check.type(court, text);
        court.parse();
        Check.same("all is as at first", Check.drained(court), Check.drained(Check.court(text)));
    }

    private static void parseKeepsTheOutput() {
        CourtCalendar court = Check.court("room r slots 0 7;officer o;case c filed 0 slots 2 limit 9;");
        court.planAll();
        court.printDay(0);
        Check.same("parse", court.parse(), 0);
        Check.same("the output", Check.output(court), "0 r c o\n");
        Check.type(court, "!");
        Check.same("parse", court.parse(), -1);
        Check.same("the output", Check.output(court), "0 r c o\n");
    }

    private static void parseWithAnErrorKeepsAll() {
        String wrong = "holiday 1;room q slots 1 1;officer q off 0 599;witness q days 9 9;case q filed 9 slots 4 limit 5 needs q;bar q q;"
            + "lengthen 0 9;cap 9;conflict q q;";
        CourtCalendar court = Check.laden(changed());
        CourtCalendar same = Check.laden(changed());
        for (CourtCalendar one : new CourtCalendar[] {court, same}) {
            one.truncate(0);
            Check.type(one, "!");
            Check.same("parse", one.parse(), -1);
        }
        Check.type(court, wrong);
        Check.same("parse", court.parse(), -1);
        Check.same("the buffer is empty", Check.bufferLength(court), 0);
        Check.same("the code", court.errorCode(), 3);
        Check.same("the offset", court.errorOffset(), wrong.length() - 2);
        Check.same("officers stay", court.isOff(0, 0), false);
        Check.type(court, "!");
        Check.same("parse", court.parse(), -1);
        Check.same("all else stays", Check.drained(court), Check.drained(same));
    }

    private static void errorOfTheLatestParse() {
        CourtCalendar court = new CourtCalendar();
        String[] texts = {"!", "cap 1;", "cap 61;", "cap 1;cap 1;", "", Check.many("room # slots 0 0;", 3) + "room", "cap"};
        int[] codes = {1, 0, 2, 3, 0, 4, 1};
        int[] offsets = {0, -1, 4, 6, -1, 51, 3};
        Check.same("no parse yet", court.errorCode() + " " + court.errorOffset(), "0 -1");
        for (int i = 0; i < texts.length; i++) {
            String before = court.errorCode() + " " + court.errorOffset();
            Check.type(court, texts[i]);
            Check.same("feeding changes none", court.errorCode() + " " + court.errorOffset(), before);
            court.parse();
            Check.same("errorCode of " + texts[i], court.errorCode(), codes[i]);
            Check.same("errorOffset of " + texts[i], court.errorOffset(), offsets[i]);
        }
        Check.type(court, "a");
        court.find(0);
        court.planAll();
        Check.same("other calls change none", court.errorCode() + " " + court.errorOffset(), "1 3");
    }

    // ---- promises 7 and 8

    private static void countOfEachWhat() {
        CourtCalendar full = changed();
        int[] due = {3, 6, 12, 12, 2, 2, 1, 4, 5, 8, 0, 0, 11, 1};
        for (int what = 0; what < due.length; what++) {
            Check.same("count " + what + " of nothing", new CourtCalendar().count(what), what == 8 ? 15 : 0);
        }
        int[] states = {full.count(10), full.count(11), full.count(12), full.count(13)};
        Check.same("each case has one state", states[0] + states[1] + states[2] + states[3], 12);
        for (int what = 0; what < 10; what++) {
            Check.same("count " + what, full.count(what), due[what]);
        }
        Check.same("lapsed", states[3], 1);
        for (int what : new int[] {-1, 14, 15, Integer.MIN_VALUE, Integer.MAX_VALUE}) {
            Check.same("count " + what, full.count(what), -1);
        }
        for (int state = 0; state < 2; state++) {
            CourtCalendar court = Check.court("room r slots 0 7;room s slots 0 7;officer o;officer p;" + Check.many("case # filed 0 slots 1 limit 1;", 12));
            for (int i = 0; i < state; i++) {
                Check.same("planAll", court.planAll(), 12);
            }
            Check.same("all in one state", court.count(10 + state), 12);
            court.pass(2);
            Check.same("all heard or lapsed", court.count(state == 1 ? 12 : 13), 12);
        }
    }

    private static CourtCalendar named(String buffer) {
        CourtCalendar court = Check.court(Check.many("room # slots 0 0;", 3) + Check.many("officer #;", 6) + Check.many("witness # days 0 0;", 12)
                + Check.many("case # filed 0 slots 1 limit 1;", 11) + "case abcdefgh filed 0 slots 1 limit 1;");
        Check.type(court, buffer);
        return court;
    }

    private static void findTakesKinds() {
        Check.edges("find", IllegalArgumentException.class, () -> named("a"), 0, 3, CourtCalendar::find);
        Check.edges("find", IllegalArgumentException.class, CourtCalendar::new, 0, 3, CourtCalendar::find);
        for (int kind = 0; kind < 4; kind++) {
            Check.same("nothing there", new CourtCalendar().find(kind), -1);
        }
    }

    private static void findTakesTheWholeContent() {
        String[] texts = {"abcdefgh", "xabcdefgh", "abcdefghx", "abcdefg", "bcdefgh", " abcdefgh", "abcdefgh ", "abcdefgh\n", "\0abcdefgh",
            "\0k", "abcdefgh;", "", " ", "Abcdefgh", "abcdefg\0", "abcdefgh".repeat(2), "abcdefgh" + " ".repeat(892), "z".repeat(892) + "abcdefgh",
            "\u00e1bcdefgh", "case", "1", "aa"};
        for (int i = 0; i < texts.length; i++) {
            Check.same("find " + texts[i], named(texts[i]).find(3), i == 0 ? 11 : -1);
        }
    }

    private static void findEmptiesTheBuffer() {
        for (String text : new String[] {"a", "abcdefgh", "nobody", "", "xabcdefgh", "1", " ".repeat(900)}) {
            for (int kind = 0; kind < 4; kind++) {
                CourtCalendar court = named(text);
                court.find(kind);
                Check.same("the buffer is empty", Check.bufferLength(court), 0);
            }
            for (int kind : new int[] {-1, 4}) {
                CourtCalendar court = named(text);
                Check.same("refused", Check.outcome(() -> court.find(kind)), "IllegalArgumentException");
                Check.same("the buffer stays", Check.bufferLength(court), text.length());
            }
        }
    }

    private static void findTheLastOfEachKind() {
        String[] last = {"c", "f", "l", "k"};
        int[] due = {2, 5, 11, 10};
        for (int kind = 0; kind < 4; kind++) {
            Check.same("the last", named(last[kind]).find(kind), due[kind]);
            Check.same("the first", named("a").find(kind), 0);
            Check.same("none", named("m").find(kind), -1);
        }
        Check.same("no fourth room", named("d").find(0), -1);
        Check.same("no seventh officer", named("g").find(1), -1);
    }
}
