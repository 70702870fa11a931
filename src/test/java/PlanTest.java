/** Promises 30 to 35: reasons, possible days, what a day would cost, the fewest days, and what waits. */
public final class PlanTest {
    private static final String TEXT = "set capacity 10;set move 30;location a 100 in;location b 50 out;"
        + "actor p 40;actor q 20;"
        + "scene a 4 p;scene a 4 night q;scene b 6 p q;scene b 5 q;scene a 3 p q;scene a 10;scene a 11;scene b 4 night p;"
        + "day 0 0;day 1 2;day 3 1;";
    // Day 5 is before a day with p; day 8 is a night before a day with p; 8 of the 10 are used on both.
    private static final String REASONS = "set capacity 10;location a 1 in;location b 2 in;actor p 3;"
        + "scene a 8;scene a 1 p;scene a 8 night;scene a 1 p;scene a 1 night p;scene b 1 night p;scene a 9 night p;"
        + "scene b 9 night p;scene b 1 night;scene b 9;scene a 9 night;scene a 2 night p;scene b 2;scene a 11 night p;"
        + "day 5 0;day 6 1;day 8 2;day 9 3;";

    public static void main(String[] args) {
        reasons();
        lowestReason();
        lowestOfEachTwoReasons();
        justTheCapacity();
        turnaroundNeedsSomebody();
        turnaroundOverAFreeDay();
        turnaroundAtTheEdges();
        sceneItselfDoesNotCount();
        daysFor();
        allDaysAndNone();
        costWith();
        costWithIsImpossibleForEachReason();
        bestDay();
        noBestDay();
        onlyTheLastDayIsBest();
        fewestDays();
        fewestDaysOfNothing();
        fewestDaysAtTheCapacity();
        waitingFor();
        waitingForNone();
        wrongIndices();
        Check.end();
    }

    private static void reasons() {
        FilmSchedule film = Check.film(TEXT);
        Check.due("30: another location", film.reasonFor(3, 0), 1);
        Check.due("30: another time", film.reasonFor(1, 0), 2);
        Check.due("30: too long", film.reasonFor(5, 0), 3);
        Check.due("30: a turnaround behind a night", film.reasonFor(4, 4), 4);
        Check.due("30: nobody of the night", film.reasonFor(0, 4), 0);
        Check.due("30: two days behind a night", film.reasonFor(4, 5), 0);
        Check.due("30: before a night", film.reasonFor(4, 2), 0);
        Check.due("30: a night before a day", film.reasonFor(1, 0), 2);
        Check.due("30: just long enough", film.reasonFor(5, 7), 0);
        Check.due("30: too long for any day", film.reasonFor(6, 7), 3);
        Check.due("30: a night with another cast", film.reasonFor(7, 2), 0);
        film.put(4, 5);
        Check.due("30: a night before a day of its cast", film.reasonFor(1, 4), 4);
        Check.due("30: a night before a night", film.reasonFor(7, 2), 0);
        Check.due("30: a night before a day of its cast", film.reasonFor(7, 4), 4);
    }

    private static void lowestReason() {
        FilmSchedule film = Check.film(TEXT);
        Check.due("30: 1 before 2", film.reasonFor(7, 0), 1);
        Check.due("30: 1 before 3", film.reasonFor(6, 1), 1);
        Check.due("30: 2 before 3", film.reasonFor(5, 3), 2);
        Check.due("30: 2 before 3", film.reasonFor(6, 3), 2);
    }

    /** Each two of the four reasons at once, three, and all of them. */
    private static void lowestOfEachTwoReasons() {
        FilmSchedule film = Check.film(REASONS);
        Check.due("30: 1 alone", film.reasonFor(12, 5), 1);
        Check.due("30: 1 and 2", film.reasonFor(8, 5), 1);
        Check.due("30: 1 and 3", film.reasonFor(9, 5), 1);
        Check.due("30: 1 and 4", film.reasonFor(5, 8), 1);
        Check.due("30: 2 and 3", film.reasonFor(10, 5), 2);
        Check.due("30: 2 and 4", film.reasonFor(4, 5), 2);
        Check.due("30: 3 and 4", film.reasonFor(6, 8), 3);
        Check.due("30: 4 alone", film.reasonFor(11, 8), 4);
        Check.due("30: 1, 2 and 4", film.reasonFor(5, 5), 1);
        Check.due("30: 2, 3 and 4", film.reasonFor(6, 5), 2);
        Check.due("30: all", film.reasonFor(7, 5), 1);
        film.take(0);
        Check.due("30: 3 and 4 on a free day", film.reasonFor(13, 5), 3);
        Check.due("30: 4 on a free day", film.reasonFor(4, 5), 4);
        Check.due("30: 3 on a free day", film.reasonFor(13, 11), 3);
    }

    private static void justTheCapacity() {
        FilmSchedule film = Check.film("set capacity 10;location a 1 in;scene a 9;scene a 1;scene a 2;scene a 10;scene a 11;day 4 0;");
        Check.due("30: 9 and 1", film.reasonFor(1, 4), 0);
        Check.due("30: 9 and 2", film.reasonFor(2, 4), 3);
        Check.due("30: 10 alone", film.reasonFor(3, 0), 0);
        Check.due("30: 11 alone", film.reasonFor(4, 0), 3);
        film.put(1, 4);
        Check.due("30: no more behind 10", film.reasonFor(2, 4), 3);
        Check.due("30: its own place", film.reasonFor(1, 4), 0);
        film.setSetting(FilmSchedule.CAPACITY, 12);
        Check.due("30: 9, 1 and 2", film.reasonFor(2, 4), 0);
        film.setSetting(FilmSchedule.CAPACITY, 11);
        Check.due("30: 9, 1 and 2", film.reasonFor(2, 4), 3);
    }

    /** A day behind a night is no turnaround for those who work on one of them only, nor for an empty cast. */
    private static void turnaroundNeedsSomebody() {
        FilmSchedule film = Check.film("location a 1 in;actor p 1;actor q 1;actor r 1;actor s 1;actor t 1;actor u 1;"
            + "scene a 1 night p q r s t;scene a 1 u;scene a 1;scene a 1 t u;scene a 1 night u;scene a 1 night;day 4 0;");
        Check.due("30: another actor", film.reasonFor(1, 5), 0);
        Check.due("30: nobody", film.reasonFor(2, 5), 0);
        Check.due("30: one of two", film.reasonFor(3, 5), 4);
        Check.due("30: a night of all", film.reasonFor(4, 5), 0);
        film.put(1, 5);
        Check.due("30: one more scene of the day", film.reasonFor(3, 5), 4);
        Check.due("30: one more scene of the night", film.reasonFor(4, 4), 4);
        Check.due("30: one more scene without a cast", film.reasonFor(5, 4), 0);
        Check.due("30: a day without a cast", film.reasonFor(2, 5), 0);
        film = Check.film("location a 1 in;actor p 1;scene a 1 night;scene a 1 p;day 4 0;");
        Check.due("30: behind a night of nobody", film.reasonFor(1, 5), 0);
    }

    /** Only the next day counts, and day 0 does not come behind day 11. */
    private static void turnaroundOverAFreeDay() {
        FilmSchedule film = Check.film("location a 1 in;actor p 1;scene a 1 night p;scene a 1 p;day 5 0;");
        for (int day = 0; day < 12; day++) {
            Check.due("30: a night on day 5, a day on " + day, film.reasonFor(1, day), day == 5 ? 2 : day == 6 ? 4 : 0);
        }
        film.put(0, 11);
        Check.due("31: a night on day 11", film.daysFor(1), 4095 & ~(1 << 11));
        film.put(0, 0);
        Check.due("31: a night on day 0", film.daysFor(1), 4095 & ~3);
        film.put(1, 11);
        Check.due("31: a day on day 11", film.daysFor(0), 4095 & ~(3 << 10));
        film.take(0);
        film.put(1, 0);
        Check.due("31: a day on day 0", film.daysFor(0), 4095 & ~1);
    }

    private static void turnaroundAtTheEdges() {
        FilmSchedule film = Check.film("location a 1 in;actor p 1;scene a 1 p;scene a 1 night p;");
        film.put(0, 0);
        Check.due("30: a night on day 11", film.reasonFor(1, 11), 0);
        film.put(1, 11);
        Check.due("30: a day on day 0", film.reasonFor(0, 0), 0);
        Check.due("30: a day on day 10", film.reasonFor(0, 10), 0);
        film.put(1, 10);
        Check.due("30: a day on day 11", film.reasonFor(0, 11), 4);
        film.put(0, 1);
        Check.due("30: a night on day 0", film.reasonFor(1, 0), 4);
    }

    private static void sceneItselfDoesNotCount() {
        FilmSchedule film = Check.film("set capacity 10;location a 1 in;location b 1 in;actor p 1;"
            + "scene a 10 p;scene b 6 night p;scene b 3 night;scene b 3 p;day 0 0;day 1 1 2;");
        Check.due("30: its own length", film.reasonFor(0, 0), 0);
        Check.due("30: its own night", film.reasonFor(1, 2), 0);
        Check.due("30: its own length in a sum", film.reasonFor(1, 1), 0);
        Check.due("30: another one stays", film.reasonFor(3, 1), 2);
        film.take(2);
        film.put(3, 4);
        Check.due("30: not behind itself", film.reasonFor(1, 3), 4);
        film.take(3);
        Check.due("31: it alone", film.daysFor(1), 4095 & ~1);
    }

    private static void daysFor() {
        FilmSchedule film = Check.film(TEXT);
        Check.due("31: scene 3", film.daysFor(3), 4095 & ~(1 | 2 | 8 | 16));
        Check.due("31: scene 4", film.daysFor(4), 4095 & ~(2 | 8 | 16));
        Check.due("31: scene 5", film.daysFor(5), 4095 & ~(1 | 2 | 8));
        Check.due("31: scene 6", film.daysFor(6), 0);
        Check.due("31: scene 0, where it is", film.daysFor(0), 4095 & ~(2 | 8));
        Check.due("31: scene 1", film.daysFor(1), 4095 & ~(1 | 2));
    }

    private static void allDaysAndNone() {
        FilmSchedule film = Check.film("set capacity 5;location a 1 in;scene a 5;scene a 6;");
        Check.due("31: all", film.daysFor(0), 4095);
        Check.due("31: none", film.daysFor(1), 0);
        film.put(0, 7);
        Check.due("31: also where it is", film.daysFor(0), 4095);
    }

    private static void costWithIsImpossibleForEachReason() {
        FilmSchedule film = Check.film(REASONS);
        Check.due("32: 1", film.costWith(12, 5), FilmSchedule.IMPOSSIBLE);
        Check.due("32: 2", film.costWith(4, 5), FilmSchedule.IMPOSSIBLE);
        Check.due("32: 3", film.costWith(6, 8), FilmSchedule.IMPOSSIBLE);
        Check.due("32: 4", film.costWith(11, 8), FilmSchedule.IMPOSSIBLE);
        int cost = film.cost();
        Check.due("32: on the first day, one move to and none fro", film.costWith(12, 0), cost + 2 + 100);
        Check.due("32: on the last day", film.costWith(12, 11), cost + 2 + 100);
    }

    private static void costWith() {
        FilmSchedule film = Check.film(TEXT);
        int cost = film.cost();
        Check.due("28: cost()", cost, 40 + 60 + 20 + 10 + 100 + 50 + 100 + 60);
        Check.due("32: where it is", film.costWith(0, 0), cost);
        Check.due("32: on a day with others", film.costWith(4, 0), cost + 20);
        Check.due("32: on a free day", film.costWith(4, 2), cost + 40 + 20 + 100 - 10);
        Check.due("32: impossible", film.costWith(4, 4), FilmSchedule.IMPOSSIBLE);
        Check.due("32: impossible", film.costWith(6, 9), FilmSchedule.IMPOSSIBLE);
        Check.due("32: moved behind the last day", film.costWith(0, 4), cost - 30 + 20 + 20);
        Check.due("32: changes nothing", film.cost(), cost);
        Check.due("32: changes nothing", film.dayOf(0), 0);
        Check.due("32: is no change", film.undoCount(), 0);
    }

    private static void bestDay() {
        FilmSchedule film = Check.film(TEXT);
        Check.due("33: with others", film.bestDay(4), 0);
        Check.due("33: the earlier of equal ones", film.bestDay(5), 2);
        Check.due("33: not where it is", Check.film("set move 50;location a 1 in;location b 1 in;scene a 1;scene b 1;"
            + "scene a 1;day 1 0;day 2 1;day 3 2;").bestDay(2), 1);
        Check.due("33: the earliest", Check.film("location a 1 in;scene a 1;").bestDay(0), 0);
        Check.due("33: is no change", film.undoCount(), 0);
    }

    private static void noBestDay() {
        FilmSchedule film = Check.film(TEXT);
        Check.due("33: none", film.bestDay(6), FilmSchedule.NOT_FOUND);
        film.setSetting(FilmSchedule.CAPACITY, 11);
        Check.due("33: the only day is the first one", film.bestDay(6), 2);
    }

    private static void onlyTheLastDayIsBest() {
        String text = "location a 1 in;location b 9999 in;" + "scene a 24;".repeat(11) + "scene b 1;scene b 1 night;";
        String days = "";
        for (int day = 0; day < 11; day++) {
            days += "day " + day + " " + day + ";";
        }
        FilmSchedule film = Check.film(text + days);
        Check.due("33: bestDay(11)", film.bestDay(11), 11);
        film.put(12, 11);
        Check.due("33: no day is left", film.bestDay(11), FilmSchedule.NOT_FOUND);
        Check.due("33: its own is left", film.bestDay(12), 11);
        film.exchange(0, 11);
        Check.due("33: only the first day", film.bestDay(12), 0);
    }

    private static void fewestDaysOfNothing() {
        Check.due("34: no locations", new FilmSchedule().fewestDays(), 0);
        Check.due("34: no scenes", Check.film("location a 1 in;location b 1 in;").fewestDays(), 0);
    }

    private static void fewestDaysAtTheCapacity() {
        FilmSchedule film = Check.film("set capacity 10;location a 1 in;location b 1 in;location c 1 in;location d 1 in;"
            + "scene a 10;scene b 10;scene b 1;scene c 20 night;scene d 10 night;scene d 11 night;scene d 1;");
        // 10 is 1, 11 is 2, 20 is 2, 21 is 3, 1 is 1
        Check.due("34: 10", film.fewestDays(), 1 + 2 + 2 + 3 + 1);
        film.setSetting(FilmSchedule.CAPACITY, 9);
        Check.due("34: 9", film.fewestDays(), 2 + 2 + 3 + 3 + 1);
        film.setSetting(FilmSchedule.CAPACITY, 1);
        Check.due("34: 1", film.fewestDays(), 63);
        film.setSetting(FilmSchedule.CAPACITY, 99);
        Check.due("34: 99", film.fewestDays(), 5);
    }

    private static void waitingForNone() {
        FilmSchedule film = Check.film("location a 1 in;location b 1 in;scene b 1;");
        Check.due("35: no scenes there", film.waitingFor(0, false), 0);
        Check.due("35: none at night", film.waitingFor(1, true), 0);
        Check.due("35: one", film.waitingFor(1, false), 1);
        film.put(0, 11);
        Check.due("35: none any more", film.waitingFor(1, false), 0);
    }

    private static void fewestDays() {
        FilmSchedule film = Check.film(TEXT);
        // a: 4 + 3 + 10 + 11 = 28 and 4 at night; b: 6 + 5 = 11 and 4 at night
        Check.due("34: 10", film.fewestDays(), 3 + 1 + 2 + 1);
        film.setSetting(FilmSchedule.CAPACITY, 28);
        Check.due("34: 28", film.fewestDays(), 4);
        film.setSetting(FilmSchedule.CAPACITY, 27);
        Check.due("34: 27", film.fewestDays(), 5);
        film.setSetting(FilmSchedule.CAPACITY, 11);
        Check.due("34: 11", film.fewestDays(), 3 + 1 + 1 + 1);
        film.take(0);
        Check.due("34: scheduled or not", film.fewestDays(), 6);
        Check.due("34: capacity 1", Check.film("set capacity 1;location a 1 in;scene a 60;scene a 60;").fewestDays(), 120);
    }

    private static void waitingFor() {
        FilmSchedule film = Check.film(TEXT);
        Check.due("35: a", film.waitingFor(0, false), 3);
        Check.due("35: a at night", film.waitingFor(0, true), 0);
        Check.due("35: b", film.waitingFor(1, false), 1);
        Check.due("35: b at night", film.waitingFor(1, true), 1);
        film.take(1);
        Check.due("35: a at night", film.waitingFor(0, true), 1);
        film.put(7, 9);
        Check.due("35: b at night", film.waitingFor(1, true), 0);
    }

    private static void wrongIndices() {
        FilmSchedule film = Check.film(TEXT);
        for (int wrong : new int[] {-1, 8, Integer.MIN_VALUE, Integer.MAX_VALUE}) {
            Check.dueIndexException("30: scene " + wrong, () -> film.reasonFor(wrong, 0));
            Check.dueIndexException("31: scene " + wrong, () -> film.daysFor(wrong));
            Check.dueIndexException("32: scene " + wrong, () -> film.costWith(wrong, 0));
            Check.dueIndexException("33: scene " + wrong, () -> film.bestDay(wrong));
        }
        for (int wrong : new int[] {-1, 12, Integer.MIN_VALUE, Integer.MAX_VALUE}) {
            Check.dueIndexException("30: day " + wrong, () -> film.reasonFor(0, wrong));
            Check.dueIndexException("32: day " + wrong, () -> film.costWith(0, wrong));
            Check.dueIndexException("32: day " + wrong + " of an impossible scene", () -> film.costWith(6, wrong));
        }
        for (int wrong : new int[] {-1, 2, Integer.MIN_VALUE, Integer.MAX_VALUE}) {
            Check.dueIndexException("35: location " + wrong, () -> film.waitingFor(wrong, false));
            Check.dueIndexException("35: location " + wrong, () -> film.waitingFor(wrong, true));
        }
    }
}
