import java.util.Arrays;

/** Promise 26 from nothing to as many officers and cases as there may be, compared with a search over the sets of cases. */
public final class FewestOfficersTest {
    private static final int SMALL = 3000;
    private static final int FULL = 60;
    private static final int CASES = 12;
    private static final int OFFICERS = 6;
    private static final int NEVER = 99;

    private static long seed = 26;

    public static void main(String[] args) {
        int[] seen = new int[OFFICERS + 2];
        for (int graph = 0; graph < SMALL; graph++) {
            seen[compare(below(8), below(OFFICERS + 1), 2 + below(6)) + 1]++;
        }
        for (int graph = 0; graph < FULL; graph++) {
            seen[compare(CASES, OFFICERS, 3 + below(20)) + 1]++;
        }
        for (int answer = -1; answer <= OFFICERS; answer++) {
            Check.same("the answer " + answer + " came up", seen[answer + 1] > 0, true);
        }
        Check.end("FewestOfficersTest");
    }

    private static int below(int bound) {
        seed = seed * 6364136223846793005L + 1442695040888963407L;
        return (int) ((seed >>> 33) % bound);
    }

    private static int compare(int cases, int officers, int barOdds) {
        int[] conflicts = new int[cases];
        int[] bars = new int[officers];
        CourtCalendar court = randomCourt(conflicts, bars, barOdds);
        int due = fewest(conflicts, bars);
        Check.same("fewestOfficers for " + Arrays.toString(conflicts) + " with " + Arrays.toString(bars), court.fewestOfficers(), due);
        return due;
    }

    /** Many of the first cases are in conflict, and one of so many officers is barred; both are put into the rows. */
    private static CourtCalendar randomCourt(int[] conflicts, int[] bars, int barOdds) {
        StringBuilder text = new StringBuilder(Check.many("officer #;", bars.length));
        text.append(Check.many("case # filed 0 slots 1 limit 1;", conflicts.length));
        int crowd = conflicts.length - below(conflicts.length / 2 + 1);
        for (int i = 0; i < crowd; i++) {
            for (int j = 0; j < i; j++) {
                if (below(4) > 0 && text.length() < 885) {
                    text.append("conflict ").append((char) ('a' + i)).append(' ').append((char) ('a' + j)).append(';');
                    conflicts[i] |= 1 << j;
                    conflicts[j] |= 1 << i;
                }
            }
        }
        CourtCalendar court = Check.court(text.toString());
        for (int officer = 0; officer < bars.length; officer++) {
            for (int number = 0; number < conflicts.length; number++) {
                if (below(barOdds) == 0) {
                    court.addBar(officer, number);
                    bars[officer] |= 1 << number;
                }
            }
        }
        return court;
    }

    /** For each set of cases, the fewest of the officers seen so far who can hear just these. */
    private static int fewest(int[] conflicts, int[] bars) {
        int[] best = new int[1 << conflicts.length];
        Arrays.fill(best, NEVER);
        best[0] = 0;
        for (int officer = 0; officer < bars.length; officer++) {
            int[] next = best.clone();
            for (int heard = 0; heard < best.length; heard++) {
                int open = best.length - 1 & ~heard & ~bars[officer];
                for (int more = open; more > 0 && best[heard] < NEVER; more = more - 1 & open) {
                    if (fits(conflicts, more)) {
                        next[heard | more] = Math.min(next[heard | more], best[heard] + 1);
                    }
                }
            }
            best = next;
        }
        int all = best[best.length - 1];
        return all == NEVER ? -1 : all;
    }

    private static boolean fits(int[] conflicts, int set) {
        for (int number = 0; number < conflicts.length; number++) {
            if ((set >> number & 1) != 0 && (conflicts[number] & set) != 0) {
                return false;
            }
        }
        return true;
    }
}
