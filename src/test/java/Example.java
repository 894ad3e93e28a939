/** The example of README.md, which shows it word by word. */
final class Example {
    public static void main(String[] args) {
        CourtCalendar court = new CourtCalendar();
        type(court, """
                holiday 2;
                room hall slots 0 5;
                officer ames; officer bohr off 0 1;
                witness wren days 0 20 slots 1 7;
                case kettle filed 0 slots 2 limit 10 needs wren;
                case lantern filed 0 slots 3 limit 5 custody;
                bar ames lantern; conflict kettle lantern;
                cap 7;
                """);
        if (court.parse() == CourtCalendar.NONE) {
            System.out.println("error " + court.errorCode() + " at byte " + court.errorOffset());
            return;
        }
        type(court, "lantern");
        int lantern = court.find(3);
        System.out.println("lantern is case " + lantern + ", its limit day is " + court.matter(lantern, 4));
        System.out.println("problem with ames: " + court.problem(lantern, 3, 0, 0, 0));
        System.out.println("planned: " + court.planAll());
        System.out.print(day(court, court.hearing(lantern, 0)));
        System.out.println("adjourned, its limit day is " + court.adjourn(lantern, 0));
        System.out.println("undone, still to be undone: " + court.undo());
        System.out.println("heard: " + court.pass(5) + ", the present day is " + court.count(7));
        try {
            court.adjourn(lantern, 0);
        } catch (IllegalStateException heard) {
            System.out.println("lantern is not planned any more");
        }
    }

    /** Puts a text into the empty input buffer: 20 bytes a call, then what is too much is cut off. */
    private static void type(CourtCalendar court, String text) {
        int[] five = new int[5];
        for (int start = 0; start < text.length(); start += 20) {
            for (int i = 0; i < 20; i++) {
                int sign = start + i < text.length() ? text.charAt(start + i) : ' ';
                five[i / 4] = five[i / 4] << 8 | sign;
            }
            court.feed(five[0], five[1], five[2], five[3], five[4]);
        }
        court.truncate(text.length());
    }

    /** The hearings of a day, a line each. */
    private static String day(CourtCalendar court, int day) {
        StringBuilder all = new StringBuilder();
        int length = court.printDay(day);
        for (int i = 0; i < length; i++) {
            all.append((char) court.outputByte(i));
        }
        return all.toString();
    }
}
