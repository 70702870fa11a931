/** Promises 40, 41 and 46: the best order. */
public final class OrderTest {
    private static final String PLACES = "location a 10 in;location b 20 out;actor p 100;actor q 40;";

    public static void main(String[] args) {
        noDays();
        oneDay();
        fewerMoves();
        fewerHeldDays();
        droppedDays();
        turnarounds();
        tiesByDays();
        sevenDaysAndEight();
        changesAreSeen();
        useBestOrder();
        Check.end();
    }

    private static void noDays() {
        FilmSchedule film = Check.film(PLACES + "scene a 1 p;");
        orderIs(film, 0);
        Check.due("46: useBestOrder()", film.useBestOrder(), 0);
        Check.due("46: is a change", film.undoCount(), 1);
    }

    private static void oneDay() {
        FilmSchedule film = Check.film(PLACES + "scene b 1 p q;scene b 2 q;day 9 0 1;");
        orderIs(film, 160, 9);
        Check.due("46: useBestOrder()", film.useBestOrder(), 160);
        Check.due("46: the days are the first ones", film.scenesOn(0), 3);
        Check.due("46: the days are the first ones", film.span(), 1);
    }

    private static void fewerMoves() {
        FilmSchedule film = Check.film(PLACES + "scene b 1;scene a 1;scene b 1;scene a 1;day 1 0;day 3 1;day 5 2;day 7 3;");
        orderIs(film, 60 + 100, 1, 5, 3, 7);
        film.setSetting(FilmSchedule.MOVE, 0);
        orderIs(film, 60, 1, 3, 5, 7);
    }

    private static void fewerHeldDays() {
        String text = "location a 0 in;actor p 10;actor q 11;scene a 1 p;scene a 1 q;scene a 1 p;scene a 1 q;";
        FilmSchedule film = Check.film(text + "day 0 0;day 2 1;day 4 2;day 6 3;");
        orderIs(film, 42, 0, 4, 2, 6);
        film = Check.film("set hold 33;location a 0 in;actor p 10;actor q 20;scene a 1 p;scene a 1 p q;scene a 1 q;scene a 1 p q;"
            + "day 0 0;day 1 2;day 2 1;day 11 3;");
        orderIs(film, 30 + 60, 0, 2, 11, 1);
    }

    private static void droppedDays() {
        String text = "location a 0 in;location b 0 in;actor p 10;scene a 1 p;scene b 1;scene a 1 p;";
        FilmSchedule film = Check.film("set move 0;set drop 1;" + text + "day 0 0;day 1 1;day 2 2;");
        orderIs(film, 20, 0, 1, 2);
        film = Check.film("set move 0;set drop 2;" + text + "day 0 0;day 1 1;day 2 2;");
        orderIs(film, 20, 0, 2, 1);
    }

    private static void turnarounds() {
        String text = PLACES + "set move 0;set hold 0;scene a 1 night p;scene a 1 p;scene a 1 night q;scene a 1 q;scene a 1;";
        orderIs(Check.film(text + "day 0 0;day 2 1;"), 220, 2, 0);
        orderIs(Check.film(text + "day 0 0;day 2 3;"), 160, 0, 2);
        orderIs(Check.film(text + "day 0 0;day 2 1;day 4 4;"), 230, 0, 4, 2);
        orderIs(Check.film(text + "day 0 0;day 2 1;day 4 2;"), 270, 0, 4, 2);
        orderIs(Check.film(text + "day 0 0;day 2 1;day 4 2;day 6 3;"), 320, 0, 4, 2, 6);
        orderIs(Check.film(text + "day 0 2;day 2 1;day 4 0;day 6 3;"), 320, 0, 2, 4, 6);
    }

    private static void tiesByDays() {
        FilmSchedule film = Check.film(PLACES + "scene a 1;scene a 1;scene a 1;day 11 0;day 3 1;day 7 2;");
        orderIs(film, 30, 3, 7, 11);
        film = Check.film(PLACES + "set move 1;scene b 1;scene a 1;scene b 1;day 2 0;day 4 1;day 10 2;");
        orderIs(film, 51, 2, 10, 4);
    }

    private static void sevenDaysAndEight() {
        String text = "";
        for (int scene = 0; scene < 8; scene++) {
            text += "scene " + (scene % 2 == 0 ? "a" : "b") + " 1 p;";
        }
        FilmSchedule film = Check.film(PLACES + text + "day 4 0;day 5 1;day 6 2;day 7 3;day 8 4;day 9 5;day 10 6;");
        orderIs(film, 4 * 10 + 3 * 20 + 700 + 100, 4, 6, 8, 10, 5, 7, 9);
        film.put(7, 11);
        int cost = film.cost();
        Check.due("40: bestCost()", film.bestCost(), FilmSchedule.TOO_LARGE);
        for (int place : new int[] {Integer.MIN_VALUE, -1, 0, 7, 8, Integer.MAX_VALUE}) {
            Check.due("41: bestOrder " + place, film.bestOrder(place), FilmSchedule.TOO_LARGE);
        }
        Check.due("46: useBestOrder()", film.useBestOrder(), FilmSchedule.TOO_LARGE);
        Check.due("46: changes nothing", film.cost(), cost);
        Check.due("46: is no change", film.undoCount(), 1);
        Check.due("46: useBestOrder() again", film.useBestOrder(), FilmSchedule.TOO_LARGE);
        film.put(7, 5);
        film.undo();
        Check.due("40: still too large", film.bestCost(), FilmSchedule.TOO_LARGE);
        film.undo();
        Check.due("40: seven days again", film.bestCost(), 900);
    }

    private static void changesAreSeen() {
        FilmSchedule film = Check.film(PLACES + "scene a 1 p;scene b 1;scene a 1 p;day 0 0;day 1 1;day 2 2;");
        orderIs(film, 200 + 40 + 100, 0, 2, 1);
        film.setSetting(FilmSchedule.MOVE, 7);
        orderIs(film, 200 + 40 + 7, 0, 2, 1);
        film.put(1, 3);
        orderIs(film, 247, 0, 2, 3);
        film.exchange(0, 3);
        orderIs(film, 247, 0, 2, 3);
        film.take(0);
        orderIs(film, 137, 0, 2);
        film.fill();
        orderIs(film, 247, 0, 1, 2);
        film.undo();
        orderIs(film, 137, 0, 2);
        Check.load(film, PLACES + "scene a 1;day 5 0;");
        orderIs(film, 10, 5);
    }

    private static void useBestOrder() {
        FilmSchedule film = Check.film(PLACES + "scene b 1;scene a 1;scene b 1;scene a 1;scene b 2;scene a 9;"
            + "day 1 0;day 3 1;day 5 2 4;day 7 3;");
        Check.due("46: useBestOrder()", film.useBestOrder(), 160);
        int[] days = {0, 2, 1, 3, 1, -1};
        for (int scene = 0; scene < 6; scene++) {
            Check.due("46: dayOf " + scene, film.dayOf(scene), days[scene]);
        }
        Check.due("46: span()", film.span(), 4);
        Check.due("46: cost()", film.cost(), 160);
        orderIs(film, 160, 0, 1, 2, 3);
        Check.due("46: undo()", film.undo(), 0);
        int[] before = {1, 3, 5, 7, 5, -1};
        for (int scene = 0; scene < 6; scene++) {
            Check.due("48: dayOf " + scene, film.dayOf(scene), before[scene]);
        }
    }

    private static void orderIs(FilmSchedule film, int cost, int... days) {
        Check.due("40: bestCost()", film.bestCost(), cost);
        for (int place = 0; place < days.length; place++) {
            Check.due("41: bestOrder " + place, film.bestOrder(place), days[place]);
        }
        for (int place : new int[] {Integer.MIN_VALUE, -1, days.length, 7, 12, Integer.MAX_VALUE}) {
            Check.due("41: bestOrder " + place, film.bestOrder(place), FilmSchedule.NOT_FOUND);
        }
    }
}
