/** Promises 36 to 39: rain. */
public final class RainTest {
    private static final String PLACES = "location i 1 in;location o 1 out;actor p 1;actor q 1;";

    public static void main(String[] args) {
        nothingToShoot();
        coverSets();
        restBehindACoverSet();
        tiredCastOfACoverSet();
        restInTheRain();
        nightBehindNight();
        coverForAFreeDayAtTheEnd();
        freeDaysInTheRain();
        freeDayBehindANight();
        indoorsInTheRain();
        outdoorsInTheRain();
        itNeverRainsAfterDayEleven();
        lastDayAsACoverSet();
        restAfterDayEleven();
        coverSetIsTheFirstOfTheOthers();
        lostDayIsARestToo();
        calendarEdges();
        eachQuestionAlone();
        worstRain();
        worstRainOfEachDay();
        wrongRain();
        Check.end();
    }

    private static void nothingToShoot() {
        FilmSchedule film = Check.film(PLACES + "scene o 1;");
        shotAre(film, 0, 0);
        shotAre(film, 4095, 0);
        Check.due("39: worstRain()", film.worstRain(), 0);
    }

    private static void coverSets() {
        FilmSchedule film = Check.film(PLACES + "scene o 1;scene i 1;scene o 1;day 0 0;day 1 1;day 3 2;");
        shotAre(film, 0, 0, 0, 1, 2, 3);
        shotAre(film, 1, 0, 1, 0, 2, 3);
        shotAre(film, 2, 0, 0, 1, 2, 3);
        shotAre(film, 3, 1, 1, -1, 0, 2, 3);
        shotAre(film, 4, 0, 0, 1, 2, 3);
        shotAre(film, 8, 1, 0, 1, 2, -1, 3);
        shotAre(film, 16, 0, 0, 1, 2, 3);
        shotAre(film, 24, 2, 0, 1, 2, -1, -1, 3);
        shotAre(film, 4095, 11, 1, -1, -1, -1, -1, -1, -1, -1, -1, -1, -1, -1, 0, 2, 3);
        shotAre(film, 2048, 0, 0, 1, 2, 3);
        Check.due("39: worstRain()", film.worstRain(), 3);
    }

    private static void restBehindACoverSet() {
        FilmSchedule film = Check.film(PLACES + "scene o 1 p;scene i 1 night p;day 0 0;day 1 1;");
        shotAre(film, 0, 0, 0, 1);
        shotAre(film, 1, 0, 1, -1, 0);
        shotAre(film, 3, 1, 1, -1, 0);
        shotAre(film, 7, 2, 1, -1, -1, 0);
        shotAre(film, 5, 1, 1, -1, -1, 0);
        film = Check.film(PLACES + "scene o 1 q;scene i 1 night p;day 0 0;day 1 1;");
        shotAre(film, 1, 0, 1, 0);
    }

    private static void tiredCastOfACoverSet() {
        String text = PLACES + "scene o 1;scene i 1 night p;scene i 1 p;scene i 1 q;scene i 1 night p;day 0 0;day 1 1;";
        FilmSchedule film = Check.film(text + "day 3 2;day 4 3;");
        shotAre(film, 3, 0, 1, 4, 0, 2, 3);
        shotAre(film, 7, 0, 1, 4, 3, 0, 2);
        film = Check.film(text + "day 3 4;day 4 3;");
        shotAre(film, 3, 0, 1, 3, 0, 2, 4);
        film = Check.film(text + "day 3 2;");
        shotAre(film, 3, 1, 1, -1, 0, 2, 3);
        shotAre(film, 7, 1, 1, -1, 3, 0, 2);
    }

    private static void restInTheRain() {
        FilmSchedule film = Check.film(PLACES + "scene o 1 night p;scene i 1;scene i 1 p;day 0 0;day 1 1;day 2 2;");
        shotAre(film, 0, 0, 0, 1, 2);
        shotAre(film, 1, 0, 1, 0, -1, 2);
        shotAre(film, 5, 0, 1, 0, -1, 2);
        shotAre(film, 3, 0, 1, 2, 0);
        film = Check.film(PLACES + "scene o 1 night p;scene i 1;scene o 1 p;day 0 0;day 1 1;day 2 2;");
        shotAre(film, 1, 0, 1, 0, -1, 2);
        shotAre(film, 5, 1, 1, 0, -1, 2);
    }

    private static void nightBehindNight() {
        FilmSchedule film = Check.film(PLACES + "scene i 1 night p;scene o 1 night p;scene i 1 night p;scene i 1 p;"
            + "day 0 0;day 1 1;day 2 2;");
        shotAre(film, 0, 0, 0, 1, 2);
        shotAre(film, 2, 0, 0, 2, 1);
    }

    private static void coverForAFreeDayAtTheEnd() {
        FilmSchedule film = Check.film(PLACES + "scene o 1;scene i 1;day 0 0;day 3 1;");
        shotAre(film, 1, 0, 3, 0, 1, 2);
        shotAre(film, 3, 1, 3, -1, 0, 1, 2);
    }

    /** The queue begins with day 0, free or not, and a free day can always be shot. */
    private static void freeDaysInTheRain() {
        FilmSchedule film = Check.film(PLACES + "scene o 1;scene i 1;day 3 0;");
        shotAre(film, 0, 0, 0, 1, 2, 3);
        shotAre(film, 7, 0, 0, 1, 2, 3);
        shotAre(film, 8, 1, 0, 1, 2, -1, 3);
        shotAre(film, 15, 1, 0, 1, 2, -1, 3);
        film.put(1, 5);
        shotAre(film, 15, 0, 0, 1, 2, 5, 3, 4);
        shotAre(film, 16, 0, 0, 1, 2, 3, 4, 5);
        film.take(0);
        shotAre(film, 4095, 0, 0, 1, 2, 3, 4, 5);
    }

    private static void freeDayBehindANight() {
        FilmSchedule film = Check.film(PLACES + "scene o 1 night p;scene i 1 p;day 0 0;day 2 1;");
        shotAre(film, 0, 0, 0, 1, 2);
        shotAre(film, 2, 0, 0, 1, 2);
        shotAre(film, 6, 0, 0, 1, 2);
        // The cover set is in front of the night now, and the free day behind it is no rest for anybody.
        shotAre(film, 1, 0, 2, 0, 1);
    }

    private static void indoorsInTheRain() {
        FilmSchedule film = Check.film(twelve("i", ""));
        shotAre(film, 0, 0, 0, 1, 2, 3, 4, 5, 6, 7, 8, 9, 10, 11);
        shotAre(film, 4095, 0, 0, 1, 2, 3, 4, 5, 6, 7, 8, 9, 10, 11);
        Check.due("39: worstRain()", film.worstRain(), 0);
    }

    private static void outdoorsInTheRain() {
        FilmSchedule film = Check.film(twelve("o", " p"));
        shotAre(film, 0, 0, 0, 1, 2, 3, 4, 5, 6, 7, 8, 9, 10, 11);
        shotAre(film, 1, 1, -1, 0, 1, 2, 3, 4, 5, 6, 7, 8, 9, 10, 11);
        shotAre(film, 4094, 11, 0, -1, -1, -1, -1, -1, -1, -1, -1, -1, -1, -1, 1, 2, 3, 4, 5, 6, 7, 8, 9, 10, 11);
        shotAre(film, 4095, 12, -1, -1, -1, -1, -1, -1, -1, -1, -1, -1, -1, -1, 0, 1, 2, 3, 4, 5, 6, 7, 8, 9, 10, 11);
        Check.due("39: all alike", film.worstRain(), 0);
    }

    private static void itNeverRainsAfterDayEleven() {
        FilmSchedule film = Check.film(twelve("o", ""));
        shotAre(film, 2048, 1, 0, 1, 2, 3, 4, 5, 6, 7, 8, 9, 10, -1, 11);
        shotAre(film, 3072, 2, 0, 1, 2, 3, 4, 5, 6, 7, 8, 9, -1, -1, 10, 11);
        // Day 11 of the schedule is shot on calendar day 13, which has no bit of its own.
        shotAre(film, 3, 2, -1, -1, 0, 1, 2, 3, 4, 5, 6, 7, 8, 9, 10, 11);
    }

    private static void lastDayAsACoverSet() {
        FilmSchedule film = Check.film(PLACES + "scene o 1;scene i 1;day 0 0;day 11 1;");
        shotAre(film, 1, 0, 11, 0, 1, 2, 3, 4, 5, 6, 7, 8, 9, 10);
        film = Check.film(PLACES + "scene o 1;scene o 1;day 0 0;day 11 1;");
        shotAre(film, 1, 1, -1, 0, 1, 2, 3, 4, 5, 6, 7, 8, 9, 10, 11);
    }

    private static void restAfterDayEleven() {
        FilmSchedule film = Check.film(PLACES + "scene o 1 p;scene i 1 night p;day 10 0;day 11 1;");
        shotAre(film, 0, 0, 0, 1, 2, 3, 4, 5, 6, 7, 8, 9, 10, 11);
        shotAre(film, 1024, 0, 0, 1, 2, 3, 4, 5, 6, 7, 8, 9, 11, -1, 10);
        shotAre(film, 3072, 1, 0, 1, 2, 3, 4, 5, 6, 7, 8, 9, 11, -1, 10);
        // Eleven lost days put the night on calendar day 12, where it rains no more, with a rest behind it.
        film = Check.film(PLACES + "scene o 1 night p;scene i 1;scene o 1 p;day 0 0;day 1 1;day 2 2;");
        shotAre(film, 4095, 11, 1, -1, -1, -1, -1, -1, -1, -1, -1, -1, -1, -1, 0, -1, 2);
    }

    /** "the first one of the other days": a day before it that is free, outdoors or tired is passed over. */
    private static void coverSetIsTheFirstOfTheOthers() {
        String text = PLACES + "scene o 1;scene i 1;scene i 1;scene o 1;";
        shotAre(Check.film(text + "day 0 0;day 1 3;day 3 1;day 4 2;"), 1, 0, 3, 0, 1, 2, 4);
        shotAre(Check.film(text + "day 0 0;day 1 3;day 3 1;day 4 2;"), 3, 0, 3, 4, 0, 1, 2);
        shotAre(Check.film(text + "day 0 0;day 1 3;day 3 1;day 4 2;"), 7, 1, 3, 4, -1, 0, 1, 2);
        // A day in front of the first one has left the queue already.
        shotAre(Check.film(text + "day 0 1;day 1 0;"), 2, 1, 0, -1, 1);
    }

    /** Nobody works on a lost day, so that those who worked the night before it are free again behind it. */
    private static void lostDayIsARestToo() {
        FilmSchedule film = Check.film(PLACES + "scene o 1 p;scene i 1 night p;scene i 1 p;day 0 0;day 1 1;day 3 2;");
        shotAre(film, 1, 0, 1, -1, 0, 2, 3);
        shotAre(film, 3, 1, 1, -1, 0, 2, 3);
        shotAre(film, 7, 1, 1, -1, 3, 0, 2);
    }

    private static void calendarEdges() {
        FilmSchedule film = Check.film(PLACES + "scene i 1;day 2 0;");
        for (int calendar : new int[] {Integer.MIN_VALUE, -2, -1}) {
            Check.due("38: calendar " + calendar, film.rainDay(4095, calendar), FilmSchedule.BAD_VALUE);
            Check.due("38: both are wrong", film.rainDay(4096, calendar), FilmSchedule.BAD_VALUE);
        }
        Check.due("38: the first", film.rainDay(4095, 0), 0);
        Check.due("38: the last", film.rainDay(4095, 2), 2);
        for (int calendar : new int[] {3, 11, 12, 23, 24, 35, 36, 37, 4095, Integer.MAX_VALUE}) {
            Check.due("38: calendar " + calendar, film.rainDay(4095, calendar), FilmSchedule.NOT_FOUND);
        }
    }

    /** No question is answered with the rain of the one before. */
    private static void eachQuestionAlone() {
        FilmSchedule film = Check.film(PLACES + "scene o 1;day 0 0;");
        Check.due("37: rainLost(3)", film.rainLost(3), 2);
        Check.due("36: rainDays(0)", film.rainDays(0), 1);
        Check.due("37: rainLost(1)", film.rainLost(1), 1);
        Check.due("38: rainDay(0, 0)", film.rainDay(0, 0), 0);
        Check.due("36: rainDays(7)", film.rainDays(7), 4);
        Check.due("38: rainDay(1, 0)", film.rainDay(1, 0), -1);
        Check.due("37: rainLost(0)", film.rainLost(0), 0);
        Check.due("39: worstRain()", film.worstRain(), 0);
        Check.due("36: rainDays(3)", film.rainDays(3), 3);
        Check.due("37: rainLost(4096)", film.rainLost(4096), FilmSchedule.BAD_VALUE);
        Check.due("38: rainDay(3, 2)", film.rainDay(3, 2), 0);
    }

    private static void worstRainOfEachDay() {
        for (int day = 0; day < 12; day++) {
            Check.due("39: outdoors on day " + day, Check.film(PLACES + "scene o 1;day " + day + " 0;").worstRain(), day);
        }
    }

    private static String twelve(String location, String cast) {
        StringBuilder text = new StringBuilder(PLACES + "set capacity 1;");
        text.append(("scene " + location + " 1" + cast + ";").repeat(12));
        for (int day = 0; day < 12; day++) {
            text.append("day ").append(day).append(' ').append(day).append(';');
        }
        return text.toString();
    }

    private static void worstRain() {
        FilmSchedule film = Check.film(PLACES + "scene i 1;scene o 1;scene o 1;day 4 0;day 6 1;day 7 2;");
        Check.due("39: the earlier one", film.worstRain(), 6);
        film = Check.film(PLACES + "scene i 1;day 11 0;");
        Check.due("39: all alike", film.worstRain(), 0);
        film = Check.film(PLACES + "scene o 1;day 11 0;");
        Check.due("39: the last day", film.worstRain(), 11);
    }

    private static void wrongRain() {
        FilmSchedule film = Check.film(PLACES + "scene o 1;day 0 0;");
        for (int wrong : new int[] {-1, 4096, Integer.MIN_VALUE, Integer.MAX_VALUE}) {
            Check.due("36: rainDays " + wrong, film.rainDays(wrong), FilmSchedule.BAD_VALUE);
            Check.due("37: rainLost " + wrong, film.rainLost(wrong), FilmSchedule.BAD_VALUE);
            Check.due("38: rainDay " + wrong, film.rainDay(wrong, 0), FilmSchedule.BAD_VALUE);
            Check.due("38: rainDay " + wrong, film.rainDay(wrong, 99), FilmSchedule.BAD_VALUE);
        }
        Check.due("38: calendar -1", film.rainDay(0, -1), FilmSchedule.BAD_VALUE);
        Check.due("38: the least calendar", film.rainDay(0, Integer.MIN_VALUE), FilmSchedule.BAD_VALUE);
        Check.due("38: the largest calendar", film.rainDay(0, Integer.MAX_VALUE), FilmSchedule.NOT_FOUND);
    }

    private static void shotAre(FilmSchedule film, int rain, int lost, int... days) {
        Check.due("36: rainDays " + rain, film.rainDays(rain), days.length);
        Check.due("37: rainLost " + rain, film.rainLost(rain), lost);
        for (int calendar = 0; calendar < days.length; calendar++) {
            Check.due("38: rainDay " + rain + ", " + calendar, film.rainDay(rain, calendar), days[calendar]);
        }
        for (int calendar : new int[] {days.length, days.length + 1, 24, 25, 36, Integer.MAX_VALUE}) {
            Check.due("38: rainDay " + rain + ", " + calendar, film.rainDay(rain, calendar), FilmSchedule.NOT_FOUND);
        }
    }
}
