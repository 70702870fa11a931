/** Promises 36 to 39: rain. */
public final class RainTest {
    private static final String PLACES = "location i 1 in;location o 1 out;actor p 1;actor q 1;";

    public static void main(String[] args) {
        nothingToShoot();
        coverSets();
        restBehindACoverSet();
        tiredCastOfACoverSet();
        restInTheRain();
        nightBehindNight();
        coverForAFreeDayAtTheEnd();
        worstRain();
        wrongRain();
        Check.end();
    }

    private static void nothingToShoot() {
        FilmSchedule film = Check.film(PLACES + "scene o 1;");
        shotAre(film, 0, 0);
        shotAre(film, 4095, 0);
        Check.due("39: worstRain()", film.worstRain(), 0);
    }

    private static void coverSets() {
        FilmSchedule film = Check.film(PLACES + "scene o 1;scene i 1;scene o 1;day 0 0;day 1 1;day 3 2;");
        shotAre(film, 0, 0, 0, 1, 2, 3);
        shotAre(film, 1, 0, 1, 0, 2, 3);
        shotAre(film, 2, 0, 0, 1, 2, 3);
        shotAre(film, 3, 1, 1, -1, 0, 2, 3);
        shotAre(film, 4, 0, 0, 1, 2, 3);
        shotAre(film, 8, 1, 0, 1, 2, -1, 3);
        shotAre(film, 16, 0, 0, 1, 2, 3);
        shotAre(film, 24, 2, 0, 1, 2, -1, -1, 3);
        shotAre(film, 4095, 11, 1, -1, -1, -1, -1, -1, -1, -1, -1, -1, -1, -1, 0, 2, 3);
        shotAre(film, 2048, 0, 0, 1, 2, 3);
        Check.due("39: worstRain()", film.worstRain(), 3);
    }

    private static void restBehindACoverSet() {
        FilmSchedule film = Check.film(PLACES + "scene o 1 p;scene i 1 night p;day 0 0;day 1 1;");
        shotAre(film, 0, 0, 0, 1);
        shotAre(film, 1, 0, 1, -1, 0);
        shotAre(film, 3, 1, 1, -1, 0);
        shotAre(film, 7, 2, 1, -1, -1, 0);
        shotAre(film, 5, 1, 1, -1, -1, 0);
        film = Check.film(PLACES + "scene o 1 q;scene i 1 night p;day 0 0;day 1 1;");
        shotAre(film, 1, 0, 1, 0);
    }

    private static void tiredCastOfACoverSet() {
        String text = PLACES + "scene o 1;scene i 1 night p;scene i 1 p;scene i 1 q;scene i 1 night p;day 0 0;day 1 1;";
        FilmSchedule film = Check.film(text + "day 3 2;day 4 3;");
        shotAre(film, 3, 0, 1, 4, 0, 2, 3);
        shotAre(film, 7, 0, 1, 4, 3, 0, 2);
        film = Check.film(text + "day 3 4;day 4 3;");
        shotAre(film, 3, 0, 1, 3, 0, 2, 4);
        film = Check.film(text + "day 3 2;");
        shotAre(film, 3, 1, 1, -1, 0, 2, 3);
        shotAre(film, 7, 1, 1, -1, 3, 0, 2);
    }

    private static void restInTheRain() {
        FilmSchedule film = Check.film(PLACES + "scene o 1 night p;scene i 1;scene i 1 p;day 0 0;day 1 1;day 2 2;");
        shotAre(film, 0, 0, 0, 1, 2);
        shotAre(film, 1, 0, 1, 0, -1, 2);
        shotAre(film, 5, 0, 1, 0, -1, 2);
        shotAre(film, 3, 0, 1, 2, 0);
        film = Check.film(PLACES + "scene o 1 night p;scene i 1;scene o 1 p;day 0 0;day 1 1;day 2 2;");
        shotAre(film, 1, 0, 1, 0, -1, 2);
        shotAre(film, 5, 1, 1, 0, -1, 2);
    }

    private static void nightBehindNight() {
        FilmSchedule film = Check.film(PLACES + "scene i 1 night p;scene o 1 night p;scene i 1 night p;scene i 1 p;"
            + "day 0 0;day 1 1;day 2 2;");
        shotAre(film, 0, 0, 0, 1, 2);
        shotAre(film, 2, 0, 0, 2, 1);
    }

    private static void coverForAFreeDayAtTheEnd() {
        FilmSchedule film = Check.film(PLACES + "scene o 1;scene i 1;day 0 0;day 3 1;");
        shotAre(film, 1, 0, 3, 0, 1, 2);
        shotAre(film, 3, 1, 3, -1, 0, 1, 2);
    }

    private static void worstRain() {
        FilmSchedule film = Check.film(PLACES + "scene i 1;scene o 1;scene o 1;day 4 0;day 6 1;day 7 2;");
        Check.due("39: the earlier one", film.worstRain(), 6);
        film = Check.film(PLACES + "scene i 1;day 11 0;");
        Check.due("39: all alike", film.worstRain(), 0);
        film = Check.film(PLACES + "scene o 1;day 11 0;");
        Check.due("39: the last day", film.worstRain(), 11);
    }

    private static void wrongRain() {
        FilmSchedule film = Check.film(PLACES + "scene o 1;day 0 0;");
        for (int wrong : new int[] {-1, 4096, Integer.MIN_VALUE, Integer.MAX_VALUE}) {
            Check.due("36: rainDays " + wrong, film.rainDays(wrong), FilmSchedule.BAD_VALUE);
            Check.due("37: rainLost " + wrong, film.rainLost(wrong), FilmSchedule.BAD_VALUE);
            Check.due("38: rainDay " + wrong, film.rainDay(wrong, 0), FilmSchedule.BAD_VALUE);
            Check.due("38: rainDay " + wrong, film.rainDay(wrong, 99), FilmSchedule.BAD_VALUE);
        }
        Check.due("38: calendar -1", film.rainDay(0, -1), FilmSchedule.BAD_VALUE);
        Check.due("38: the least calendar", film.rainDay(0, Integer.MIN_VALUE), FilmSchedule.BAD_VALUE);
        Check.due("38: the largest calendar", film.rainDay(0, Integer.MAX_VALUE), FilmSchedule.NOT_FOUND);
    }

    private static void shotAre(FilmSchedule film, int rain, int lost, int... days) {
        Check.due("36: rainDays " + rain, film.rainDays(rain), days.length);
        Check.due("37: rainLost " + rain, film.rainLost(rain), lost);
        for (int calendar = 0; calendar < days.length; calendar++) {
            Check.due("38: rainDay " + rain + ", " + calendar, film.rainDay(rain, calendar), days[calendar]);
        }
        for (int calendar = days.length; calendar < 50; calendar++) {
            Check.due("38: rainDay " + rain + ", " + calendar, film.rainDay(rain, calendar), FilmSchedule.NOT_FOUND);
        }
    }
}
