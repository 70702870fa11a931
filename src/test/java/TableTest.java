/** Promises 5 to 29: what a production has, its days, the table of the actors, and costs. */
public final class TableTest {
    private static final String TEXT = "set capacity 20;set move 70;set hold 33;set drop 3;"
        + "location house 100 in;location beach 55 out;actor ann 41;actor bob 20;actor cat 9999;"
        + "scene house 4 ann;scene house 5 bob ann;scene beach 6 night bob;scene beach 7;scene house 20 night ann;"
        + "scene house 8 bob;day 0 0;day 2 1 5;day 6 2;day 11 4;";
    private static final int[] WRONG = {-1, 99, Integer.MIN_VALUE, Integer.MAX_VALUE};

    public static void main(String[] args) {
        declarations();
        days();
        statuses();
        firstOfTheLongestGaps();
        gapsAgainstDrop();
        everyGapAgainstEveryDrop();
        workOnNeighbours();
        workOnAllDays();
        workOnOneDay();
        roundingDown();
        costs();
        movesOverFreeDays();
        wrongIndices();
        Check.end();
    }

    private static void declarations() {
        FilmSchedule film = Check.film(TEXT);
        Check.due("5: locationCount()", film.locationCount(), 2);
        Check.due("6: actorCount()", film.actorCount(), 3);
        Check.due("7: sceneCount()", film.sceneCount(), 6);
        Check.due("8: undoCount()", film.undoCount(), 0);
        Check.due("9: house", film.locationNamed(Check.letters("house")), 0);
        Check.due("9: beach", film.locationNamed(Check.letters("beach")), 1);
        Check.due("9: an actor", film.locationNamed(Check.letters("ann")), -1);
        Check.due("9: part of a name", film.locationNamed(Check.letters("hous")), -1);
        Check.due("9: letters at the lower end", film.locationNamed(Check.letters("house") >> 5), -1);
        Check.due("9: a bit more", film.locationNamed(Check.letters("house") | 1 << 30), -1);
        Check.due("9: a bit more", film.locationNamed(Check.letters("house") | 1 << 31), -1);
        Check.due("9: no letters", film.locationNamed(0), -1);
        Check.due("9: b as 2 in the highest group", Check.film("location b 1 in;").locationNamed(2 << 25), 0);
        Check.due("9: zzzzzz", Check.film("location zzzzzz 1 in;").locationNamed(Check.letters("zzzzzz")), 0);
        Check.due("10: ann", film.actorNamed(Check.letters("ann")), 0);
        Check.due("10: cat", film.actorNamed(Check.letters("cat")), 2);
        Check.due("10: a location", film.actorNamed(Check.letters("house")), -1);
        Check.due("10: no letters", film.actorNamed(0), -1);
        int[] settings = {20, 70, 33, 3};
        for (int setting = 0; setting < 4; setting++) {
            Check.due("11: getSetting " + setting, film.getSetting(setting), settings[setting]);
        }
        Check.due("12: rate", film.locationProperty(0, 0), 100);
        Check.due("12: rate", film.locationProperty(1, 0), 55);
        Check.due("12: indoors", film.locationProperty(0, 1), 1);
        Check.due("12: outdoors", film.locationProperty(1, 1), 0);
        Check.due("13: fee", film.feeOf(0), 41);
        Check.due("13: fee", film.feeOf(2), 9999);
        int[][] scenes = {{0, 4, 0, 1}, {0, 5, 0, 3}, {1, 6, 1, 2}, {1, 7, 0, 0}, {0, 20, 1, 1}, {0, 8, 0, 2}};
        for (int scene = 0; scene < 6; scene++) {
            for (int what = 0; what < 4; what++) {
                Check.due("14: sceneProperty " + scene + ", " + what, film.sceneProperty(scene, what), scenes[scene][what]);
            }
        }
        for (int what : new int[] {-1, 4, Integer.MIN_VALUE, Integer.MAX_VALUE}) {
            Check.due("11: getSetting " + what, film.getSetting(what), FilmSchedule.BAD_VALUE);
            Check.due("12: locationProperty " + what, film.locationProperty(1, what), FilmSchedule.BAD_VALUE);
            Check.due("14: sceneProperty " + what, film.sceneProperty(5, what), FilmSchedule.BAD_VALUE);
        }
        Check.due("12: locationProperty 2", film.locationProperty(1, 2), FilmSchedule.BAD_VALUE);
    }

    private static void days() {
        FilmSchedule film = Check.film(TEXT);
        int[] dayOf = {0, 2, 6, -1, 11, 2};
        for (int scene = 0; scene < 6; scene++) {
            Check.due("15: dayOf " + scene, film.dayOf(scene), dayOf[scene]);
        }
        int[] scenesOn = {1, 0, 34, 0, 0, 0, 4, 0, 0, 0, 0, 16};
        int[] locationOn = {0, -1, 0, -1, -1, -1, 1, -1, -1, -1, -1, 0};
        int[] lengthOn = {4, 0, 13, 0, 0, 0, 6, 0, 0, 0, 0, 20};
        int[] castOn = {1, 0, 3, 0, 0, 0, 2, 0, 0, 0, 0, 1};
        for (int day = 0; day < 12; day++) {
            Check.due("16: scenesOn " + day, film.scenesOn(day), scenesOn[day]);
            Check.due("17: locationOn " + day, film.locationOn(day), locationOn[day]);
            Check.due("18: isNight " + day, film.isNight(day), day == 6 || day == 11);
            Check.due("19: lengthOn " + day, film.lengthOn(day), lengthOn[day]);
            Check.due("20: castOn " + day, film.castOn(day), castOn[day]);
        }
        Check.due("21: span()", film.span(), 12);
        film.take(4);
        Check.due("21: span()", film.span(), 7);
        film.take(2);
        Check.due("18: isNight of a day that is free again", film.isNight(6), false);
        Check.due("17: locationOn of a day that is free again", film.locationOn(6), -1);
        Check.due("21: span()", film.span(), 3);
        film.take(1);
        Check.due("21: span()", film.span(), 3);
        film.take(5);
        Check.due("21: span()", film.span(), 1);
        film.take(0);
        Check.due("21: span()", film.span(), 0);
    }

    private static void statuses() {
        FilmSchedule film = Check.film(TEXT);
        statusesAre(film, 0, "WhWddddddddW");
        statusesAre(film, 1, "..WdddW.....");
        statusesAre(film, 2, "............");
        film.setSetting(FilmSchedule.DROP, 4);
        statusesAre(film, 1, "..WhhhW.....");
        film.setSetting(FilmSchedule.DROP, 9);
        statusesAre(film, 0, "WhWhhhhhhhhW");
        film.setSetting(FilmSchedule.DROP, 1);
        statusesAre(film, 0, "WhWddddddddW");
        film.take(4);
        statusesAre(film, 0, "WdW.........");
        film.take(0);
        statusesAre(film, 0, "..W.........");
        Check.due("25: status 4", film.daysWith(0, 4), FilmSchedule.BAD_VALUE);
        Check.due("25: status -1", film.daysWith(0, -1), FilmSchedule.BAD_VALUE);
    }

    private static void firstOfTheLongestGaps() {
        String text = "set drop 2;location a 0 in;actor p 10;scene a 1 p;scene a 1 p;scene a 1 p;scene a 1 p;scene a 1 p;";
        statusesAre(Check.film(text + "day 0 0;day 2 1;day 5 2;day 8 3;day 11 4;"), 0, "WhWddWhhWhhW");
        statusesAre(Check.film(text + "day 1 0;day 4 1;day 7 2;day 11 3;"), 0, ".WhhWhhWdddW");
        statusesAre(Check.film(text + "day 1 0;day 3 1;day 5 2;day 6 3;"), 0, ".WhWhWW.....");
        statusesAre(Check.film(text + "day 0 0;day 11 1;"), 0, "WddddddddddW");
        statusesAre(Check.film(text + "day 11 0 1 2;"), 0, "...........W");
    }

    private static void gapsAgainstDrop() {
        FilmSchedule film = Check.film("set drop 12;location a 0 in;actor p 10;scene a 1 p;scene a 1 p;day 0 0;day 11 1;");
        statusesAre(film, 0, "WhhhhhhhhhhW");
        Check.due("29: holdingCost()", film.holdingCost(), 50);
        film.setSetting(FilmSchedule.DROP, 11);
        statusesAre(film, 0, "WhhhhhhhhhhW");
        film.setSetting(FilmSchedule.DROP, 10);
        statusesAre(film, 0, "WddddddddddW");
        Check.due("29: holdingCost()", film.holdingCost(), 0);
    }

    /** "if it has at least DROP days": each length of a gap with each DROP, and the days off around it. */
    private static void everyGapAgainstEveryDrop() {
        for (int drop = 1; drop <= 12; drop++) {
            for (int gap = 0; gap <= 10; gap++) {
                String days = "day 0 0;day " + (gap + 1) + " 1;";
                FilmSchedule film = Check.film("set drop " + drop + ";location a 0 in;actor p 10;scene a 1 p;scene a 1 p;" + days);
                String signs = "W" + (gap >= drop ? "d" : "h").repeat(gap) + "W" + ".".repeat(10 - gap);
                statusesAre(film, 0, signs);
                Check.due("26: actorCost " + signs, film.actorCost(0), 20 + (gap >= drop ? 0 : 5 * gap));
            }
        }
    }

    private static void workOnNeighbours() {
        String text = "set drop 1;location a 0 in;actor p 10;scene a 1 p;scene a 1 p;scene a 1 p;";
        statusesAre(Check.film(text + "day 0 0;day 1 1;day 2 2;"), 0, "WWW.........");
        statusesAre(Check.film(text + "day 9 0;day 10 1;day 11 2;"), 0, ".........WWW");
        statusesAre(Check.film(text + "day 0 0;day 2 1;day 4 2;"), 0, "WdWhW.......");
        statusesAre(Check.film(text + "day 7 0;day 9 1;day 11 2;"), 0, ".......WdWhW");
    }

    private static void workOnAllDays() {
        String days = "";
        for (int day = 0; day < 12; day++) {
            days += "day " + day + " " + day + ";";
        }
        statusesAre(Check.film("location a 0 in;actor p 10;" + "scene a 1 p;".repeat(12) + days), 0, "WWWWWWWWWWWW");
    }

    private static void workOnOneDay() {
        for (int day = 0; day < 12; day++) {
            FilmSchedule film = Check.film("set drop 1;location a 0 in;actor p 10;scene a 1 p;scene a 2 p;day " + day + " 0 1;");
            statusesAre(film, 0, ".".repeat(day) + "W" + ".".repeat(11 - day));
            Check.due("26: two scenes of a day are one day of work", film.actorCost(0), 10);
        }
    }

    /** "the fee times HOLD divided by 100, rounded down, for each day HOLDING". */
    private static void roundingDown() {
        int[][] fees = {{0, 100, 0}, {1, 99, 0}, {1, 100, 1}, {2, 50, 1}, {3, 50, 1}, {199, 50, 99}, {200, 50, 100}, {99, 1, 0},
            {100, 1, 1}, {199, 1, 1}, {9999, 0, 0}, {9999, 1, 99}, {9999, 99, 9899}, {9999, 100, 9999}};
        for (int[] fee : fees) {
            FilmSchedule film = Check.film("set hold " + fee[1] + ";location a 0 in;actor p " + fee[0]
                + ";scene a 1 p;scene a 1 p;day 0 0;day 4 1;");
            Check.due("29: fee " + fee[0] + ", hold " + fee[1], film.holdingCost(), 3 * fee[2]);
            Check.due("26: fee " + fee[0] + ", hold " + fee[1], film.actorCost(0), 2 * fee[0] + 3 * fee[2]);
        }
    }

    private static void costs() {
        FilmSchedule film = Check.film(TEXT);
        Check.due("26: ann", film.actorCost(0), 3 * 41 + 13);
        Check.due("26: bob", film.actorCost(1), 2 * 20);
        Check.due("26: cat", film.actorCost(2), 0);
        Check.due("27: moves()", film.moves(), 2);
        Check.due("28: cost()", film.cost(), 136 + 40 + 2 * 70 + 3 * 100 + 55);
        Check.due("29: holdingCost()", film.holdingCost(), 13);
        film.setSetting(FilmSchedule.DROP, 4);
        Check.due("26: bob, rounded down for each day", film.actorCost(1), 2 * 20 + 3 * 6);
        Check.due("28: cost()", film.cost(), 671 + 18);
        Check.due("29: holdingCost()", film.holdingCost(), 13 + 18);
        film.setSetting(FilmSchedule.HOLD, 0);
        Check.due("29: nothing for holding", film.holdingCost(), 0);
        film.setSetting(FilmSchedule.HOLD, 100);
        Check.due("29: the whole fee", film.holdingCost(), 41 + 3 * 20);
        film.setSetting(FilmSchedule.MOVE, 9999);
        Check.due("28: cost()", film.cost(), 3 * 41 + 2 * 20 + 101 + 2 * 9999 + 355);
    }

    private static void movesOverFreeDays() {
        String text = "location a 1 in;location b 2 in;scene a 1;scene b 1;scene a 1;scene b 1;";
        Check.due("27: one day", Check.film(text + "day 5 0;").moves(), 0);
        Check.due("27: free days between", Check.film(text + "day 2 0;day 9 2;").moves(), 0);
        Check.due("27: free days between", Check.film(text + "day 2 0;day 9 1;").moves(), 1);
        Check.due("27: to and fro", Check.film(text + "day 0 0;day 1 1;day 2 2;day 11 3;").moves(), 3);
        Check.due("28: to and fro", Check.film(text + "day 0 0;day 1 1;day 2 2;day 11 3;").cost(), 306);
        String all = "set capacity 9;";
        for (int scene = 0; scene < 12; scene++) {
            all += (scene < 2 ? "location " + (char) ('a' + scene) + " 9999 in;" : "");
        }
        String days = "";
        for (int scene = 0; scene < 12; scene++) {
            all += "scene " + (char) ('a' + scene % 2) + " 9;";
            days += "day " + scene + " " + scene + ";";
        }
        Check.due("27: most moves", Check.film(all + days).moves(), 11);
        Check.due("28: most rates", Check.film(all + days).cost(), 11 * 100 + 12 * 9999);
    }

    private static void wrongIndices() {
        FilmSchedule film = Check.film(TEXT);
        for (int wrong : WRONG) {
            Check.dueIndexException("16: scenesOn " + wrong, () -> film.scenesOn(wrong));
            Check.dueIndexException("17: locationOn " + wrong, () -> film.locationOn(wrong));
            Check.dueIndexException("18: isNight " + wrong, () -> film.isNight(wrong));
            Check.dueIndexException("19: lengthOn " + wrong, () -> film.lengthOn(wrong));
            Check.dueIndexException("20: castOn " + wrong, () -> film.castOn(wrong));
            Check.dueIndexException("22: statusOf day " + wrong, () -> film.statusOf(0, wrong));
        }
        Check.dueIndexException("16: scenesOn 12", () -> film.scenesOn(12));
        Check.dueIndexException("17: locationOn 12", () -> film.locationOn(12));
        Check.dueIndexException("18: isNight 12", () -> film.isNight(12));
        Check.dueIndexException("19: lengthOn 12", () -> film.lengthOn(12));
        Check.dueIndexException("20: castOn 12", () -> film.castOn(12));
        Check.dueIndexException("22: statusOf day 12", () -> film.statusOf(0, 12));
        for (int wrong : new int[] {-1, 2, Integer.MIN_VALUE, Integer.MAX_VALUE}) {
            Check.dueIndexException("12: locationProperty " + wrong, () -> film.locationProperty(wrong, 0));
            Check.dueIndexException("12: checked first", () -> film.locationProperty(wrong, 9));
        }
        for (int wrong : new int[] {-1, 3, Integer.MIN_VALUE, Integer.MAX_VALUE}) {
            Check.dueIndexException("13: feeOf " + wrong, () -> film.feeOf(wrong));
            Check.dueIndexException("22: statusOf " + wrong, () -> film.statusOf(wrong, 0));
            Check.dueIndexException("22: statusOf " + wrong, () -> film.statusOf(wrong, -1));
            Check.dueIndexException("23: firstDay " + wrong, () -> film.firstDay(wrong));
            Check.dueIndexException("24: lastDay " + wrong, () -> film.lastDay(wrong));
            Check.dueIndexException("25: daysWith " + wrong, () -> film.daysWith(wrong, 0));
            Check.dueIndexException("25: checked first", () -> film.daysWith(wrong, 9));
            Check.dueIndexException("26: actorCost " + wrong, () -> film.actorCost(wrong));
        }
        for (int wrong : new int[] {-1, 6, Integer.MIN_VALUE, Integer.MAX_VALUE}) {
            Check.dueIndexException("14: sceneProperty " + wrong, () -> film.sceneProperty(wrong, 0));
            Check.dueIndexException("14: checked first", () -> film.sceneProperty(wrong, 9));
            Check.dueIndexException("15: dayOf " + wrong, () -> film.dayOf(wrong));
        }
    }

    /** The statuses as signs: W works, h is held, d is dropped, a point is off. */
    private static void statusesAre(FilmSchedule film, int actor, String signs) {
        int[] counts = new int[4];
        for (int day = 0; day < 12; day++) {
            int status = ".Whd".indexOf(signs.charAt(day));
            counts[status]++;
            Check.due("22: statusOf " + actor + ", " + day + " for " + signs, film.statusOf(actor, day), status);
        }
        for (int status = 0; status < 4; status++) {
            Check.due("25: daysWith " + actor + ", " + status + " for " + signs, film.daysWith(actor, status), counts[status]);
        }
        Check.due("23: firstDay " + actor + " for " + signs, film.firstDay(actor), signs.indexOf('W'));
        Check.due("24: lastDay " + actor + " for " + signs, film.lastDay(actor), signs.lastIndexOf('W'));
    }
}
