/** Promises 40, 41 and 46: the best order. */
public final class OrderTest {
    private static final String PLACES = "location a 10 in;location b 20 out;actor p 100;actor q 40;";

    public static void main(String[] args) {
        noDays();
        oneDay();
        fewerMoves();
        fewerHeldDays();
        droppedDays();
        turnarounds();
        tiesByDays();
        sevenDaysAndEight();
        changesAreSeen();
        useBestOrder();
        useBestOrderOfTheBest();
        useBestOrderOfSeven();
        daysAreFreeBetween();
        nightsAlways();
        longestGapOfAnOrder();
        Check.end();
    }

    private static void noDays() {
        FilmSchedule film = Check.film(PLACES + "scene a 1 p;");
        orderIs(film, 0);
        Check.due("46: useBestOrder()", film.useBestOrder(), 0);
        Check.due("46: is a change", film.undoCount(), 1);
    }

    private static void oneDay() {
        FilmSchedule film = Check.film(PLACES + "scene b 1 p q;scene b 2 q;day 9 0 1;");
        orderIs(film, 160, 9);
        Check.due("46: useBestOrder()", film.useBestOrder(), 160);
        Check.due("46: the days are the first ones", film.scenesOn(0), 3);
        Check.due("46: the days are the first ones", film.span(), 1);
    }

    private static void fewerMoves() {
        FilmSchedule film = Check.film(PLACES + "scene b 1;scene a 1;scene b 1;scene a 1;day 1 0;day 3 1;day 5 2;day 7 3;");
        orderIs(film, 60 + 100, 1, 5, 3, 7);
        film.setSetting(FilmSchedule.MOVE, 0);
        orderIs(film, 60, 1, 3, 5, 7);
    }

    private static void fewerHeldDays() {
        String text = "location a 0 in;actor p 10;actor q 11;scene a 1 p;scene a 1 q;scene a 1 p;scene a 1 q;";
        FilmSchedule film = Check.film(text + "day 0 0;day 2 1;day 4 2;day 6 3;");
        orderIs(film, 42, 0, 4, 2, 6);
        film = Check.film("set hold 33;location a 0 in;actor p 10;actor q 20;scene a 1 p;scene a 1 p q;scene a 1 q;scene a 1 p q;"
            + "day 0 0;day 1 2;day 2 1;day 11 3;");
        orderIs(film, 30 + 60, 0, 2, 11, 1);
    }

    private static void droppedDays() {
        String text = "location a 0 in;location b 0 in;actor p 10;scene a 1 p;scene b 1;scene a 1 p;";
        FilmSchedule film = Check.film("set move 0;set drop 1;" + text + "day 0 0;day 1 1;day 2 2;");
        orderIs(film, 20, 0, 1, 2);
        film = Check.film("set move 0;set drop 2;" + text + "day 0 0;day 1 1;day 2 2;");
        orderIs(film, 20, 0, 2, 1);
    }

    private static void turnarounds() {
        String text = PLACES + "set move 0;set hold 0;scene a 1 night p;scene a 1 p;scene a 1 night q;scene a 1 q;scene a 1;";
        orderIs(Check.film(text + "day 0 0;day 2 1;"), 220, 2, 0);
        orderIs(Check.film(text + "day 0 0;day 2 3;"), 160, 0, 2);
        orderIs(Check.film(text + "day 0 0;day 2 1;day 4 4;"), 230, 0, 4, 2);
        orderIs(Check.film(text + "day 0 0;day 2 1;day 4 2;"), 270, 0, 4, 2);
        orderIs(Check.film(text + "day 0 0;day 2 1;day 4 2;day 6 3;"), 320, 0, 4, 2, 6);
        orderIs(Check.film(text + "day 0 2;day 2 1;day 4 0;day 6 3;"), 320, 0, 2, 4, 6);
    }

    private static void tiesByDays() {
        FilmSchedule film = Check.film(PLACES + "scene a 1;scene a 1;scene a 1;day 11 0;day 3 1;day 7 2;");
        orderIs(film, 30, 3, 7, 11);
        film = Check.film(PLACES + "set move 1;scene b 1;scene a 1;scene b 1;day 2 0;day 4 1;day 10 2;");
        orderIs(film, 51, 2, 10, 4);
    }

    private static void sevenDaysAndEight() {
        String text = "";
        for (int scene = 0; scene < 8; scene++) {
            text += "scene " + (scene % 2 == 0 ? "a" : "b") + " 1 p;";
        }
        FilmSchedule film = Check.film(PLACES + text + "day 4 0;day 5 1;day 6 2;day 7 3;day 8 4;day 9 5;day 10 6;");
        orderIs(film, 4 * 10 + 3 * 20 + 700 + 100, 4, 6, 8, 10, 5, 7, 9);
        film.put(7, 11);
        int cost = film.cost();
        Check.due("40: bestCost()", film.bestCost(), FilmSchedule.TOO_LARGE);
        for (int place : new int[] {Integer.MIN_VALUE, -1, 0, 7, 8, Integer.MAX_VALUE}) {
            Check.due("41: bestOrder " + place, film.bestOrder(place), FilmSchedule.TOO_LARGE);
        }
        Check.due("46: useBestOrder()", film.useBestOrder(), FilmSchedule.TOO_LARGE);
        Check.due("46: changes nothing", film.cost(), cost);
        Check.due("46: is no change", film.undoCount(), 1);
        Check.due("46: useBestOrder() again", film.useBestOrder(), FilmSchedule.TOO_LARGE);
        film.put(7, 5);
        film.undo();
        Check.due("40: still too large", film.bestCost(), FilmSchedule.TOO_LARGE);
        film.undo();
        Check.due("40: seven days again", film.bestCost(), 900);
    }

    private static void changesAreSeen() {
        FilmSchedule film = Check.film(PLACES + "scene a 1 p;scene b 1;scene a 1 p;day 0 0;day 1 1;day 2 2;");
        orderIs(film, 200 + 40 + 100, 0, 2, 1);
        film.setSetting(FilmSchedule.MOVE, 7);
        orderIs(film, 200 + 40 + 7, 0, 2, 1);
        film.put(1, 3);
        orderIs(film, 247, 0, 2, 3);
        film.exchange(0, 3);
        orderIs(film, 247, 0, 2, 3);
        film.take(0);
        orderIs(film, 137, 0, 2);
        film.fill();
        orderIs(film, 247, 0, 1, 2);
        film.undo();
        orderIs(film, 137, 0, 2);
        Check.load(film, PLACES + "scene a 1;day 5 0;");
        orderIs(film, 10, 5);
    }

    private static void useBestOrder() {
        FilmSchedule film = Check.film(PLACES + "scene b 1;scene a 1;scene b 1;scene a 1;scene b 2;scene a 9;"
            + "day 1 0;day 3 1;day 5 2 4;day 7 3;");
        Check.due("46: useBestOrder()", film.useBestOrder(), 160);
        int[] days = {0, 2, 1, 3, 1, -1};
        for (int scene = 0; scene < 6; scene++) {
            Check.due("46: dayOf " + scene, film.dayOf(scene), days[scene]);
        }
        Check.due("46: span()", film.span(), 4);
        Check.due("46: cost()", film.cost(), 160);
        orderIs(film, 160, 0, 1, 2, 3);
        Check.due("46: undo()", film.undo(), 0);
        int[] before = {1, 3, 5, 7, 5, -1};
        for (int scene = 0; scene < 6; scene++) {
            Check.due("48: dayOf " + scene, film.dayOf(scene), before[scene]);
        }
    }

    /** "If a change makes nothing different, it is a change all the same." */
    private static void useBestOrderOfTheBest() {
        FilmSchedule film = Check.film(PLACES + "scene a 1;scene a 2;scene b 1;day 0 0;day 1 1;day 2 2;");
        String plan = Check.plan(film);
        Check.due("46: useBestOrder()", film.useBestOrder(), 140);
        Check.due("46: useBestOrder()", film.useBestOrder(), 140);
        Check.dueText("46: nothing is different", Check.plan(film), plan);
        Check.due("46: are changes", film.undoCount(), 2);
    }

    private static void useBestOrderOfSeven() {
        String text = PLACES;
        for (int scene = 0; scene < 8; scene++) {
            text += "scene " + (scene % 2 == 0 ? "a" : "b") + " 24;";
        }
        FilmSchedule film = Check.film(text + "day 5 6;day 6 5;day 7 4;day 8 3;day 9 2;day 10 1;day 11 0;");
        orderIs(film, 40 + 60 + 100, 5, 7, 9, 11, 6, 8, 10);
        Check.due("46: seven days", film.useBestOrder(), 200);
        int[] days = {3, 6, 2, 5, 1, 4, 0, -1};
        for (int scene = 0; scene < 8; scene++) {
            Check.due("46: dayOf " + scene, film.dayOf(scene), days[scene]);
        }
        Check.due("46: span()", film.span(), 7);
        film.put(7, 11);
        Check.due("46: eight days", film.useBestOrder(), FilmSchedule.TOO_LARGE);
        Check.due("46: span()", film.span(), 12);
    }

    /** The days of an order are thought to be the days 0, 1, 2 and so on: free days between them do not count. */
    private static void daysAreFreeBetween() {
        FilmSchedule film = Check.film("location a 0 in;actor p 10;scene a 1 p;scene a 1 p;day 0 0;day 3 1;");
        Check.due("28: with two days of holding", film.cost(), 30);
        orderIs(film, 20, 0, 3);
        film = Check.film("location a 0 in;actor p 10;scene a 1 night p;scene a 1 p;day 0 0;day 2 1;");
        // Without the free day between them, the day would be behind the night.
        orderIs(film, 20, 2, 0);
        Check.due("46: useBestOrder()", film.useBestOrder(), 20);
        Check.due("46: the day is first", film.dayOf(1), 0);
        Check.due("46: the night is second", film.dayOf(0), 1);
    }

    /** An order exists even if all of the cast is in every scene: all days, then all nights. */
    private static void nightsAlways() {
        String text = "set move 9999;location a 1 in;location b 1 in;actor p 1;";
        for (int scene = 0; scene < 7; scene++) {
            text += "scene " + (scene % 2 == 0 ? "a" : "b") + " 1" + (scene < 4 ? " night" : "") + " p;";
        }
        FilmSchedule film = Check.film(text + "day 8 0;day 9 1;day 10 2;day 11 3;day 0 4;day 1 5;day 2 6;");
        // Two moves; 1 0 2 8 10 9 11 has two as well, and comes later.
        orderIs(film, 14 + 2 * 9999, 0, 2, 1, 9, 11, 8, 10);
    }

    /** DROP counts in an order as in the table: a gap of one day is dropped by 1, and is held by 2. */
    private static void longestGapOfAnOrder() {
        String text = "set move 0;set hold 100;location a 0 in;actor p 10;actor q 10;"
            + "scene a 1 p;scene a 1 q;scene a 1 p q;scene a 1 p;day 0 0;day 1 1;day 2 2;day 3 3;";
        orderIs(Check.film("set drop 12;" + text), 50, 0, 3, 2, 1);
        orderIs(Check.film("set drop 1;" + text), 50, 0, 1, 2, 3);
        orderIs(Check.film("set drop 2;" + text), 50, 0, 3, 2, 1);
    }

    private static void orderIs(FilmSchedule film, int cost, int... days) {
        Check.due("40: bestCost()", film.bestCost(), cost);
        for (int place = 0; place < days.length; place++) {
            Check.due("41: bestOrder " + place, film.bestOrder(place), days[place]);
        }
        for (int place : new int[] {Integer.MIN_VALUE, -1, days.length, 7, 12, Integer.MAX_VALUE}) {
            Check.due("41: bestOrder " + place, film.bestOrder(place), FilmSchedule.NOT_FOUND);
        }
    }
}
