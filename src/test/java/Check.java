import java.util.Objects;

/** What all tests share: comparing answers, and making calendars from a text. */
final class Check {
    private static int wrong = 0;

    interface Call {
        Object run();
    }

    /** Makes the same calendar each time. */
    interface Maker {
        CourtCalendar make();
    }

    interface Asking {
        Object ask(CourtCalendar court, int argument);
    }

    private Check() {
    }

    static void same(String what, Object got, Object due) {
        if (!Objects.equals(got, due)) {
            wrong++;
            System.out.println(what + " answered " + got + ", due is " + due);
        }
    }

    /** The call must throw just this exception, and nothing that can be asked may change by it. */
    static void fails(String what, Class<?> due, CourtCalendar court, Call call) {
        String before = digest(court);
        same(what, outcome(call), due.getSimpleName());
        same(what + " changed something:", digest(court), before);
    }

    /** The call must throw just this exception and change nothing, not even what only undo, restoreState or parse shows. */
    static void refused(String what, Class<?> due, Maker maker, Asking call, int argument) {
        CourtCalendar court = maker.make();
        same(what + " of " + argument, outcome(() -> call.ask(court, argument)), due.getSimpleName());
        same(what + " of " + argument + " changed something:", drained(court), drained(maker.make()));
    }

    static void refused(String what, Class<?> due, Maker maker, Asking call) {
        refused(what, due, maker, call, 0);
    }

    /** The arguments from least to most are taken, the ones beside them refused; there are none if most is below least. */
    static void edges(String what, Class<?> due, Maker maker, int least, int most, Asking call) {
        for (int argument : least > most ? new int[0] : new int[] {least, most}) {
            CourtCalendar court = maker.make();
            Object answer = outcome(() -> call.ask(court, argument));
            same(what + " of " + argument + " threw " + answer, answer instanceof String, false);
        }
        for (int argument : new int[] {least - 1, most + 1, Integer.MIN_VALUE, Integer.MAX_VALUE}) {
            refused(what, due, maker, call, argument);
        }
    }

    /** Gives a calendar an output, a saved state, an error and a text in its buffer, so that a loss of them shows. */
    static CourtCalendar laden(CourtCalendar court) {
        court.printDay(0);
        court.saveState();
        type(court, "cap 99;");
        court.parse();
        type(court, "cap 3;room left slots 0 7;");
        return court;
    }

    /** The answer of a call, or the name of what it threw. */
    static Object outcome(Call call) {
        try {
            return call.run();
        } catch (RuntimeException thrown) {
            return thrown.getClass().getSimpleName();
        }
    }

    static void end(String test) {
        if (wrong > 0) {
            System.out.println(test + ": " + wrong + " wrong");
            System.exit(1);
        }
        System.out.println(test + ": all answers are as due");
    }

    static CourtCalendar court(String text) {
        CourtCalendar court = new CourtCalendar();
        type(court, text);
        same("parse of " + text, court.parse() >= 0, true);
        same("errorCode of " + text, court.errorCode(), 0);
        return court;
    }

    /** The statement so many times, # replaced by another letter and % by another number each time. */
    static String many(String statement, int times) {
        StringBuilder all = new StringBuilder();
        for (int i = 0; i < times; i++) {
            all.append(statement.replace('#', (char) ('a' + i)).replace("%", String.valueOf(i)));
        }
        return all.toString();
    }

    /** Puts the text behind what the buffer holds. */
    static void type(CourtCalendar court, String text) {
        int length = 0;
        for (int start = 0; start < text.length(); start += 20) {
            length = court.feed(four(text, start), four(text, start + 4), four(text, start + 8),
                    four(text, start + 12), four(text, start + 16));
        }
        int surplus = (20 - text.length() % 20) % 20;
        same("truncate", court.truncate(length - surplus), true);
    }

    private static int four(String text, int start) {
        int all = 0;
        for (int i = start; i < start + 4; i++) {
            all = all << 8 | (i < text.length() ? text.charAt(i) & 255 : 0);
        }
        return all;
    }

    static String output(CourtCalendar court) {
        StringBuilder all = new StringBuilder();
        for (int i = 0; court.outputByte(i) != CourtCalendar.NONE; i++) {
            all.append((char) court.outputByte(i));
        }
        return all.toString();
    }

    /** All that is held in a calendar, which is of no use afterwards: what is read, the buffer, the changes and the saved state. */
    static String drained(CourtCalendar court) {
        StringBuilder all = new StringBuilder(digest(court));
        all.append("\nbuffer ").append(bufferLength(court));
        for (int changes = court.count(9); changes > 0; changes--) {
            all.append("\nundo ").append(outcome(court::undo)).append('\n').append(digest(court));
        }
        all.append("\nrestore ").append(outcome(court::restoreState)).append('\n').append(digest(court));
        all.append("\nparse ").append(court.parse()).append('\n').append(digest(court));
        return all.toString();
    }

    static int bufferLength(CourtCalendar court) {
        int length = 900;
        while (length >= 0 && !court.truncate(length)) {
            length--;
        }
        return length;
    }

    /** Everything that the reading methods tell, as one text. (Our object bears more calls than the promised 512.) */
    static String digest(CourtCalendar court) {
        StringBuilder all = new StringBuilder();
        for (int what = 0; what <= 13; what++) {
            all.append(court.count(what)).append(' ');
        }
        for (int reason = 0; reason < 4; reason++) {
            all.append(court.lengthening(reason)).append(' ');
        }
        for (int day = 0; day < 600; day++) {
            all.append(court.isWorkingDay(day) ? '+' : '-');
        }
        for (int witness = 0; witness < court.count(2); witness++) {
            all.append("\nwitness");
            for (int what = 0; what <= 4; what++) {
                all.append(' ').append(court.witness(witness, what));
            }
        }
        for (int number = 0; number < court.count(3); number++) {
            all.append("\ncase");
            for (int what = 0; what <= 9; what++) {
                all.append(' ').append(court.matter(number, what));
            }
            for (int what = 0; what <= 3; what++) {
                all.append(' ').append(court.hearing(number, what));
            }
            for (int index = 0; index < court.matter(number, 7); index++) {
                for (int what = 0; what <= 3; what++) {
                    all.append(' ').append(court.adjournment(number, index, what));
                }
            }
            for (int officer = 0; officer < court.count(1); officer++) {
                all.append(court.isBarred(officer, number) ? " barred" : " free");
            }
        }
        all.append("\n").append(court.errorCode()).append(' ').append(court.errorOffset());
        all.append("\n").append(output(court));
        return all.toString();
    }
}
