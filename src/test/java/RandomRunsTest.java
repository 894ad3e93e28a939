/** Runs of calls, the same ones each time, of which the program and the reference must answer all alike. */
public final class RandomRunsTest {
    private static final int RUNS = 80;
    private static final int CALLS = 512;

    private static long seed;
    private static CourtCalendar court;
    private static Reference reference;
    private static int wrong = 0;
    private static int answered = 0;

    public static void main(String[] args) {
        int first = args.length > 0 ? Integer.parseInt(args[0]) : 1;
        int last = args.length > 1 ? Integer.parseInt(args[1]) : RUNS;
        for (int run = first; run <= last && wrong < 20; run++) {
            seed = run * 7919L;
            court = new CourtCalendar();
            reference = new Reference();
            for (int call = 0; call < CALLS; call++) {
                if (call == 0 || below(150) == 0) {
                    type(below(3) == 0 ? spoilt(text()) : text());
                    same("parse", () -> court.parse(), () -> reference.parse(), run);
                    same("errorCode", () -> court.errorCode(), () -> reference.errorCode(), run);
                    same("errorOffset", () -> court.errorOffset(), () -> reference.errorOffset(), run);
                } else {
                    call(run);
                }
            }
        }
        System.out.println("RandomRunsTest: " + answered + " answers without an exception, " + wrong + " wrong");
        System.exit(wrong > 0 ? 1 : 0);
    }

    private static int below(int bound) {
        seed = seed * 6364136223846793005L + 1442695040888963407L;
        return (int) ((seed >>> 33) % bound);
    }

    private static int between(int least, int most) {
        return least + below(most - least + 1);
    }

    private static void same(String what, Check.Call program, Check.Call model, int run) {
        Object got = Check.outcome(program);
        Object due = Check.outcome(model);
        answered += due instanceof String ? 0 : 1;
        if (!got.equals(due)) {
            wrong++;
            System.out.println("run " + run + ": " + what + " answered " + got + ", due is " + due);
        }
    }

    // ---- texts

    private static char letter(int i) {
        return (char) ('a' + i);
    }

    /** As many of each kind as there may be, and what else 900 bytes hold. */
    private static String fullText() {
        StringBuilder all = new StringBuilder(Check.many("room # slots 0 7;", 2) + "room z slots " + span(0, 7) + ";" + Check.many("officer #;", 6));
        for (int i = 0; i < 12; i++) {
            all.append("witness ").append(letter(i)).append(" days 0 ").append(between(5, 60)).append(';');
        }
        for (int i = 0; i < 12; i++) {
            all.append("case ").append(letter(i)).append(" filed ").append(below(4)).append(" slots ").append(between(1, 4));
            all.append(" limit ").append(between(1, 9)).append(below(4) == 0 ? " custody" : "");
            all.append(below(3) == 0 ? " needs " + letter(between(8, 11)) : "").append(';');
        }
        for (int i = 1; i < 12; i++) {
            int other = below(i);
            all.append(below(2) == 0 ? "conflict " + letter(i) + " " + letter(other) : "bar " + letter(other / 2) + " " + letter(i)).append(';');
        }
        return all.toString();
    }

    private static String text() {
        if (below(6) == 0) {
            return fullText();
        }
        StringBuilder all = new StringBuilder();
        int rooms = below(12) == 0 ? 0 : between(1, 3);
        int officers = below(12) == 0 ? 0 : between(1, below(2) == 0 ? 3 : 6);
        int witnesses = between(0, 5);
        int cases = between(0, 7);
        int far = below(4) == 0 ? 600 : 25;
        boolean wide = below(2) == 0;
        for (int i = below(6); i > 0; i--) {
            all.append("holiday ").append(i * 4 + below(4)).append(';');
        }
        for (int i = 0; i < rooms; i++) {
            all.append("room r").append(letter(i)).append(" slots ").append(wide ? "0 7" : span(0, 7)).append(';');
        }
        for (int i = 0; i < officers; i++) {
            all.append("officer o").append(letter(i));
            for (int times = wide ? below(2) : below(4); times > 0; times--) {
                all.append(" off ").append(span(0, far - 1));
            }
            all.append(";");
        }
        for (int i = 0; i < witnesses; i++) {
            all.append("witness w").append(letter(i)).append(" days ").append(below(8)).append(' ').append(wide ? 599 : between(8, far - 1));
            all.append(below(wide ? 8 : 2) == 0 ? " slots " + span(0, 7) : "").append(";\n");
        }
        for (int i = 0; i < cases; i++) {
            all.append("case c").append(letter(i)).append(" filed ").append(below(wide ? 20 : 6) == 0 ? below(100) : below(5));
            all.append(" slots ").append(between(1, 4)).append(" limit ").append(between(1, below(3) == 0 ? 60 : below(2) == 0 ? 20 : 9));
            all.append(below(3) == 0 ? " custody" : "");
            for (int w = 0, needs = 0; w < witnesses && needs < 4; w++) {
                if (below(3) == 0) {
                    all.append(" needs w").append(letter(w));
                    needs++;
                }
            }
            all.append("; ");
        }
        appendPairs(all, officers, cases);
        return all.toString();
    }

    private static void appendPairs(StringBuilder all, int officers, int cases) {
        int barOdds = between(3, 12);
        int conflictOdds = between(2, 9);
        for (int i = 0; i < cases; i++) {
            for (int o = 0; o < officers; o++) {
                if (below(barOdds) == 0) {
                    all.append("bar o").append(letter(o)).append(" c").append(letter(i)).append(';');
                }
            }
            for (int j = 0; j < i; j++) {
                if (below(conflictOdds) == 0) {
                    all.append("conflict c").append(letter(i)).append(" c").append(letter(j)).append(';');
                }
            }
        }
        for (int reason = 0; reason < 4; reason++) {
            if (below(2) == 0) {
                all.append("lengthen ").append(reason).append(' ').append(below(31)).append(';');
            }
        }
        if (below(2) == 0) {
            all.append("cap ").append(below(61)).append(';');
        }
    }

    private static String span(int least, int most) {
        int first = between(least, most);
        return first + " " + between(first, most);
    }

    /** A text with a few tokens or bytes left out, put twice or changed. */
    private static String spoilt(String text) {
        String[] words = {";", "holiday", "room", "off", "needs", "custody", "case", "cap", "ca", "oa", "wa", "zz", "1", "9", "600",
            "1234", "abcdefghi", " ", "A", "\t", "slots", "bar", "conflict", "lengthen"};
        StringBuilder all = new StringBuilder(text);
        for (int i = between(1, 2); i > 0 && all.length() > 3; i--) {
            int at = below(all.length());
            switch (below(5)) {
                case 0 -> all.deleteCharAt(at);
                case 1 -> all.insert(at, words[below(words.length)]);
                case 2 -> all.insert(at, " " + words[below(words.length)] + " ");
                case 3 -> all.setLength(at);
                default -> {
                    int from = Math.max(all.lastIndexOf(";", at), 0);
                    all.append(all.substring(from + 1 > at ? from : from + 1, at));
                }
            }
        }
        return all.toString();
    }

    private static void type(String whole) {
        String text = whole.length() > 900 ? whole.substring(0, whole.lastIndexOf(';', 899) + 1) : whole;
        reference.truncate(0);
        court.truncate(0);
        while (reference.feed(0, 0, 0, 0, 0) < text.length()) {
            continue;
        }
        reference.truncate(0);
        for (int start = 0; start < text.length(); start += 20) {
            int[] five = new int[5];
            for (int i = 0; i < 20; i++) {
                int sign = start + i < text.length() ? text.charAt(start + i) & 255 : 32;
                five[i / 4] |= sign << 24 - 8 * (i % 4);
            }
            court.feed(five[0], five[1], five[2], five[3], five[4]);
            reference.feed(five);
        }
        court.truncate(text.length());
        reference.truncate(text.length());
    }

    // ---- calls

    /** Mostly an index below the size, now and then one beside it. */
    private static int index(int size) {
        if (size == 0 || below(40) == 0) {
            return below(2) == 0 ? -1 : size + below(2);
        }
        return below(size);
    }

    private static int day() {
        int now = reference.count(7);
        int kind = below(20);
        if (kind == 0) {
            return between(-1, 600);
        }
        return now + below(kind < 12 ? 9 : 25) - (kind < 3 ? 3 : 0);
    }

    private static void call(int run) {
        int kind = below(100);
        if (kind < 45) {
            change(run);
        } else if (kind < 70) {
            search(run);
        } else {
            read(run);
        }
    }

    private static void change(int run) {
        int number = index(reference.count(3));
        int officer = index(reference.count(1));
        int witness = index(reference.count(2));
        int room = index(reference.count(0));
        int day = day();
        int slot = index(8);
        int reason = index(4);
        int days = below(12) == 0 ? between(-1, 101) : between(1, 3);
        switch (below(28)) {
            case 0 -> same("pass " + days, () -> court.pass(days), () -> reference.pass(days), run);
            case 1, 2, 3, 4, 5, 6 -> same("plan " + number + " " + day + " " + slot + " " + room + " " + officer,
                () -> court.plan(number, day, slot, room, officer), () -> reference.plan(number, day, slot, room, officer), run);
            case 7, 8, 9, 10, 11 -> same("planNext " + number, () -> court.planNext(number), () -> reference.planNext(number), run);
            case 12, 13 -> same("planAll", () -> court.planAll(), () -> reference.planAll(), run);
            case 14, 15, 16, 17, 18 -> same("adjourn " + number + " " + reason, () -> court.adjourn(number, reason),
                () -> reference.adjourn(number, reason), run);
            case 19, 20 -> same("withdraw " + witness + " " + day, () -> court.withdraw(witness, day),
                () -> reference.withdraw(witness, day), run);
            case 21 -> same("addHoliday " + day, () -> court.addHoliday(day), () -> reference.addHoliday(day), run);
            case 22 -> same("addBar " + officer + " " + number, () -> court.addBar(officer, number),
                () -> reference.addBar(officer, number), run);
            case 23, 24, 25 -> same("undo", () -> court.undo(), () -> reference.undo(), run);
            case 26 -> same("saveState", () -> court.saveState(), () -> reference.saveState(), run);
            default -> same("restoreState", () -> court.restoreState(), () -> reference.restoreState(), run);
        }
    }

    private static void search(int run) {
        int number = index(reference.count(3));
        int officer = index(reference.count(1));
        int room = index(reference.count(0));
        int day = day();
        int slot = index(8);
        int what = index(4);
        int days = below(8) == 0 ? between(-1, 101) : between(1, 30);
        if (below(4) == 0) {
            problemBeside(run, number, officer);
            return;
        }
        switch (below(12)) {
            case 0, 1, 2, 3 -> same("problem " + number + " " + day + " " + slot + " " + room + " " + officer,
                () -> court.problem(number, day, slot, room, officer), () -> reference.problem(number, day, slot, room, officer), run);
            case 4, 5 -> same("opening " + number + " " + what, () -> court.opening(number, what),
                () -> reference.opening(number, what), run);
            case 6 -> same("openDays " + number, () -> court.openDays(number), () -> reference.openDays(number), run);
            case 7 -> {
                // The reference tries all ways, which are too many for more cases.
                if (reference.count(3) <= 7) {
                    same("fewestOfficers", () -> court.fewestOfficers(), () -> reference.fewestOfficers(), run);
                }
            }
            case 8 -> same("lapsesIn " + days, () -> court.lapsesIn(days), () -> reference.lapsesIn(days), run);
            case 9 -> same("plannable", () -> court.plannable(), () -> reference.plannable(), run);
            case 10 -> same("keyOfficer", () -> court.keyOfficer(), () -> reference.keyOfficer(), run);
            default -> same("eligible " + number, () -> court.eligible(number), () -> reference.eligible(number), run);
        }
    }

    /** A hearing on the day of another one, where the problems with rooms, officers and witnesses are. */
    private static void problemBeside(int run, int number, int officer) {
        int other = below(12);
        if (other >= reference.count(3) || reference.hearing(other, 0) < 0) {
            return;
        }
        int day = reference.hearing(other, 0);
        int slot = Math.min(7, Math.max(0, reference.hearing(other, 1) + between(-1, 1)));
        int room = below(2) == 0 ? reference.hearing(other, 2) : below(reference.count(0));
        same("problem " + number + " " + day + " " + slot + " " + room + " " + officer,
            () -> court.problem(number, day, slot, room, officer), () -> reference.problem(number, day, slot, room, officer), run);
    }

    private static void read(int run) {
        int number = index(reference.count(3));
        int officer = index(reference.count(1));
        int witness = index(reference.count(2));
        int room = index(reference.count(0));
        int day = day();
        int to = day + below(20) - 1;
        int slot = index(8);
        int what = index(below(2) == 0 ? 4 : 10);
        int kind = below(22);
        if (kind < 11) {
            readMatter(run, kind, number, what, slot, room, day);
            return;
        }
        switch (kind) {
            case 11 -> same("isWorkingDay " + day, () -> court.isWorkingDay(day), () -> reference.isWorkingDay(day), run);
            case 12 -> same("workingDays " + day + " " + to, () -> court.workingDays(day, to), () -> reference.workingDays(day, to), run);
            case 13 -> same("lengthening " + what, () -> court.lengthening(what), () -> reference.lengthening(what), run);
            case 14 -> same("witness " + witness + " " + what, () -> court.witness(witness, what),
                () -> reference.witness(witness, what), run);
            case 15 -> same("isOff " + officer + " " + day, () -> court.isOff(officer, day), () -> reference.isOff(officer, day), run);
            case 16 -> same("isBarred " + officer + " " + number, () -> court.isBarred(officer, number),
                () -> reference.isBarred(officer, number), run);
            case 17 -> same("load " + officer, () -> court.load(officer), () -> reference.load(officer), run);
            case 18 -> same("meanSlack", () -> court.meanSlack(), () -> reference.meanSlack(), run);
            case 19 -> same("usage " + room + " " + day + " " + to, () -> court.usage(room, day, to),
                () -> reference.usage(room, day, to), run);
            case 20 -> same("outputByte", () -> court.outputByte(day - 3), () -> reference.outputByte(day - 3), run);
            default -> {
                type(new String[] {"ra", "oc", "wb", "ca", "cd", "zz", "r", "caa"}[below(8)]);
                same("find " + slot % 5, () -> court.find(slot % 5), () -> reference.find(slot % 5), run);
            }
        }
    }

    private static void readMatter(int run, int kind, int number, int what, int slot, int room, int day) {
        int index = index(3);
        switch (kind) {
            case 0, 1, 2 -> same("matter " + number + " " + what, () -> court.matter(number, what),
                () -> reference.matter(number, what), run);
            case 3, 4 -> same("hearing " + number + " " + what, () -> court.hearing(number, what),
                () -> reference.hearing(number, what), run);
            case 5 -> same("adjournment " + number + " " + index + " " + what, () -> court.adjournment(number, index, what),
                () -> reference.adjournment(number, index, what), run);
            case 6 -> same("caseAt " + room + " " + day + " " + slot, () -> court.caseAt(room, day, slot),
                () -> reference.caseAt(room, day, slot), run);
            case 7 -> same("urgent " + what, () -> court.urgent(what), () -> reference.urgent(what), run);
            case 8 -> same("slack " + number, () -> court.slack(number), () -> reference.slack(number), run);
            case 9 -> same("count " + (slot * 2 + what % 2), () -> court.count(slot * 2 + what % 2),
                () -> reference.count(slot * 2 + what % 2), run);
            default -> {
                int printed = reference.count(11) > 0 && number >= 0 && number < reference.count(3) && reference.hearing(number, 0) >= 0
                    ? reference.hearing(number, 0) : day;
                same("printDay " + printed, () -> court.printDay(printed), () -> reference.printDay(printed), run);
                for (int i = 0; i < 12; i++) {
                    int at = i * 3;
                    same("outputByte " + at, () -> court.outputByte(at), () -> reference.outputByte(at), run);
                }
            }
        }
    }
}
