/** Promises 42 to 45, 47 and 48: changes, and how they are undone. */
public final class ChangeTest {
    private static final String TEXT = "set capacity 10;set move 30;location a 100 in;location b 50 out;"
        + "actor p 40;actor q 20;"
        + "scene a 4 p;scene a 4 night q;scene b 6 p q;scene b 5 q;scene a 3 p q;scene a 10;scene a 11;scene b 4 night p;";

    public static void main(String[] args) {
        put();
        putWhereItIs();
        wrongPuts();
        take();
        fourteenScenes();
        exchange();
        exchangeOfAFreeDay();
        exchangeInsideATurnaround();
        exchangeAtTheFirstAndLastDay();
        exchangeDoesNotWrapAround();
        exchangeWithoutSomebody();
        putOnTheFirstAndLastDay();
        putMovesOutOfATurnaround();
        fill();
        fillOfNothing();
        fillKeepsTheRest();
        fillInAscendingOrder();
        fillOnTheLastDay();
        fillLeavesWhatHasNoDay();
        setSetting();
        wrongSettings();
        capacityOfDays();
        undo();
        twelveChanges();
        thirteenthChangeOfEachKind();
        changesThatMakeNothingDifferent();
        changesBehindAnUndo();
        undoIsNoChange();
        undoOfEachKind();
        nothingToUndoBehindALoad();
        errorsAreNoChanges();
        Check.end();
    }

    private static void put() {
        FilmSchedule film = Check.film(TEXT);
        Check.due("42: put(0, 3)", film.put(0, 3), 140);
        Check.due("42: dayOf", film.dayOf(0), 3);
        Check.due("42: put(2, 11)", film.put(2, 11), 140 + 110 + 30);
        Check.due("42: moved", film.put(0, 10), 280);
        Check.due("42: the old day is free", film.scenesOn(3), 0);
        Check.due("42: undoCount()", film.undoCount(), 3);
    }

    private static void putWhereItIs() {
        FilmSchedule film = Check.film(TEXT + "day 3 5;");
        Check.due("42: where it is", film.put(5, 3), 100);
        Check.due("42: is a change", film.undoCount(), 1);
        Check.due("42: dayOf", film.dayOf(5), 3);
        Check.due("48: undo()", film.undo(), 0);
        Check.due("48: dayOf", film.dayOf(5), 3);
    }

    private static void wrongPuts() {
        FilmSchedule film = Check.film(TEXT + "day 3 0;");
        for (int wrong : new int[] {-1, 8, Integer.MIN_VALUE, Integer.MAX_VALUE}) {
            Check.due("42: scene " + wrong, film.put(wrong, 0), FilmSchedule.NOT_FOUND);
            Check.due("42: scene first", film.put(wrong, 12), FilmSchedule.NOT_FOUND);
        }
        for (int wrong : new int[] {-1, 12, Integer.MIN_VALUE, Integer.MAX_VALUE}) {
            Check.due("42: day " + wrong, film.put(0, wrong), FilmSchedule.BAD_VALUE);
            Check.due("42: day before what is possible", film.put(6, wrong), FilmSchedule.BAD_VALUE);
        }
        Check.due("42: another location", film.put(2, 3), FilmSchedule.IMPOSSIBLE);
        Check.due("42: another time", film.put(1, 3), FilmSchedule.IMPOSSIBLE);
        Check.due("42: too long", film.put(5, 3), FilmSchedule.IMPOSSIBLE);
        Check.due("42: a turnaround", film.put(7, 2), FilmSchedule.IMPOSSIBLE);
        Check.due("42: changes nothing", film.scenesOn(3), 1);
        Check.due("42: changes nothing", film.undoCount(), 0);
        Check.due("42: cost()", film.cost(), 140);
    }

    private static void take() {
        FilmSchedule film = Check.film(TEXT + "day 3 0 4;day 5 2;");
        Check.due("28: cost()", film.cost(), 60 + 60 + 20 + 10 + 150 + 30);
        Check.due("43: take(4)", film.take(4), 40 + 60 + 20 + 150 + 30);
        Check.due("43: dayOf", film.dayOf(4), FilmSchedule.NOT_FOUND);
        Check.due("43: twice", film.take(4), FilmSchedule.NOT_FOUND);
        Check.due("43: take(0)", film.take(0), 110);
        Check.due("43: never scheduled", film.take(7), FilmSchedule.NOT_FOUND);
        for (int wrong : new int[] {-1, 8, 13, 14, Integer.MIN_VALUE, Integer.MAX_VALUE}) {
            Check.due("43: scene " + wrong, film.take(wrong), FilmSchedule.NOT_FOUND);
        }
        Check.due("43: undoCount()", film.undoCount(), 2);
    }

    private static void fourteenScenes() {
        String scenes = "";
        for (int scene = 0; scene < 14; scene++) {
            scenes += "scene a 1;";
        }
        FilmSchedule film = Check.film("location a 1 in;" + scenes);
        Check.due("42: put(13, 11)", film.put(13, 11), 1);
        Check.due("42: put(14, 11)", film.put(14, 11), FilmSchedule.NOT_FOUND);
        Check.due("43: take(14)", film.take(14), FilmSchedule.NOT_FOUND);
        Check.due("43: take(13)", film.take(13), 0);
        Check.due("45: fill()", film.fill(), 14);
        Check.dueIndexException("15: dayOf 14", () -> film.dayOf(14));
        Check.dueIndexException("30: reasonFor 14", () -> film.reasonFor(14, 0));
    }

    private static void exchange() {
        FilmSchedule film = Check.film(TEXT + "day 0 0 4;day 1 2;day 2 5;");
        Check.due("28: cost()", film.cost(), 120 + 250 + 60);
        Check.due("44: exchange(1, 2)", film.exchange(1, 2), 120 + 30 + 250 + 30);
        Check.due("44: scenesOn", film.scenesOn(1), 32);
        Check.due("44: scenesOn", film.scenesOn(2), 4);
        Check.due("44: exchange(2, 0)", film.exchange(2, 0), 430);
        Check.due("44: scenesOn", film.scenesOn(2), 17);
        Check.due("44: the same day", film.exchange(2, 2), 430);
        Check.due("44: undoCount()", film.undoCount(), 3);
        for (int wrong : new int[] {-1, 12, Integer.MIN_VALUE, Integer.MAX_VALUE}) {
            Check.due("44: one " + wrong, film.exchange(wrong, 0), FilmSchedule.BAD_VALUE);
            Check.due("44: other " + wrong, film.exchange(0, wrong), FilmSchedule.BAD_VALUE);
        }
        Check.due("44: undoCount()", film.undoCount(), 3);
    }

    private static void exchangeOfAFreeDay() {
        FilmSchedule film = Check.film(TEXT + "day 0 0 4;");
        Check.due("44: with a free day", film.exchange(0, 11), 160);
        Check.due("44: dayOf", film.dayOf(4), 11);
        Check.due("44: two free days", film.exchange(0, 1), 160);
        Check.due("44: dayOf a scene without a day", film.dayOf(1), FilmSchedule.NOT_FOUND);
        Check.due("44: undoCount()", film.undoCount(), 2);
    }

    private static void exchangeInsideATurnaround() {
        FilmSchedule film = Check.film(TEXT + "day 0 2;day 1 1;day 3 5;");
        int cost = film.cost();
        Check.due("44: day and night", film.exchange(0, 1), FilmSchedule.IMPOSSIBLE);
        Check.due("44: a night far before", film.exchange(0, 2), FilmSchedule.IMPOSSIBLE);
        Check.due("44: another cast", film.exchange(2, 3), cost);
        Check.due("44: a day between them", film.exchange(0, 3), cost + 10);
        Check.due("44: undoCount()", film.undoCount(), 2);
        film = Check.film(TEXT + "day 0 2;day 1 1;day 3 5;");
        film.exchange(0, 1);
        Check.due("44: changes nothing", film.scenesOn(0), 4);
        Check.due("44: changes nothing", film.undoCount(), 0);
        Check.due("44: changes nothing", film.cost(), cost);
    }

    /** Somebody would work inside a turnaround on the first two days, or on the last two. */
    private static void exchangeAtTheFirstAndLastDay() {
        String text = "location a 1 in;actor p 1;scene a 1 p;scene a 1 night p;";
        Check.due("44: days 0 and 1", Check.film(text + "day 0 0;day 1 1;").exchange(0, 1), FilmSchedule.IMPOSSIBLE);
        Check.due("44: days 1 and 0", Check.film(text + "day 0 0;day 1 1;").exchange(1, 0), FilmSchedule.IMPOSSIBLE);
        Check.due("44: days 10 and 11", Check.film(text + "day 10 0;day 11 1;").exchange(10, 11), FilmSchedule.IMPOSSIBLE);
        Check.due("44: days 11 and 10", Check.film(text + "day 10 0;day 11 1;").exchange(11, 10), FilmSchedule.IMPOSSIBLE);
        Check.due("44: a night to day 0", Check.film(text + "day 1 0;day 5 1;").exchange(0, 5), FilmSchedule.IMPOSSIBLE);
        Check.due("44: a day to day 11", Check.film(text + "day 0 0;day 10 1;").exchange(0, 11), FilmSchedule.IMPOSSIBLE);
    }

    /** Day 0 does not come behind day 11. */
    private static void exchangeDoesNotWrapAround() {
        FilmSchedule film = Check.film("set hold 0;location a 1 in;actor p 1;scene a 1 p;scene a 1 night p;day 0 0;day 5 1;");
        Check.due("44: a night on day 11", film.exchange(5, 11), 4);
        Check.due("18: the night is there", film.isNight(11), true);
        Check.due("44: a night on day 0", film.exchange(0, 11), 4);
        Check.due("18: the night is there", film.isNight(0), true);
        Check.due("44: a day on day 1", film.exchange(11, 1), FilmSchedule.IMPOSSIBLE);
        Check.due("44: a day on day 2", film.exchange(11, 2), 4);
    }

    private static void exchangeWithoutSomebody() {
        FilmSchedule film = Check.film("location a 1 in;actor p 1;actor q 1;scene a 1 p;scene a 1 night q;scene a 1;scene a 1 night;"
            + "day 0 0;day 1 1;day 3 2;day 4 3;");
        Check.due("44: others work at night", film.exchange(0, 1), 6);
        Check.due("44: nobody works", film.exchange(3, 4), 6);
        Check.due("44: nights alone", film.exchange(0, 3), 6);
    }

    private static void putOnTheFirstAndLastDay() {
        FilmSchedule film = Check.film(TEXT);
        Check.due("42: day -1", film.put(5, -1), FilmSchedule.BAD_VALUE);
        Check.due("42: day 0", film.put(5, 0), 100);
        Check.due("16: day 0", film.scenesOn(0), 32);
        Check.due("42: day 12", film.put(5, 12), FilmSchedule.BAD_VALUE);
        Check.due("42: day 11", film.put(5, 11), 100);
        Check.due("16: day 0", film.scenesOn(0), 0);
        Check.due("16: day 11", film.scenesOn(11), 32);
        Check.due("8: undoCount()", film.undoCount(), 2);
    }

    /** "The scene itself is not regarded as scheduled": it may be moved behind the night that was its own. */
    private static void putMovesOutOfATurnaround() {
        FilmSchedule film = Check.film("location a 1 in;actor p 1;scene a 1 p;scene a 1 night p;day 4 0;day 5 1;");
        Check.due("42: a day behind the night", film.put(0, 6), FilmSchedule.IMPOSSIBLE);
        Check.due("42: the night before the day", film.put(1, 3), FilmSchedule.IMPOSSIBLE);
        Check.due("42: the night to the day's own", film.put(1, 4), FilmSchedule.IMPOSSIBLE);
        Check.due("42: the night behind where it was", film.put(1, 6), 4);
        Check.due("42: the day where the night was", film.put(0, 5), 4);
        Check.due("42: and where it is", film.put(0, 5), 4);
        Check.due("8: undoCount()", film.undoCount(), 3);
    }

    /** A scene with a lower index has its day before the others are looked at. */
    private static void fillInAscendingOrder() {
        FilmSchedule film = Check.film("set capacity 10;location a 1 in;scene a 6;scene a 5;scene a 4;scene a 5;scene a 1;");
        Check.due("45: fill()", film.fill(), 5);
        int[] days = {0, 1, 0, 1, 2};
        for (int scene = 0; scene < 5; scene++) {
            Check.due("45: dayOf " + scene, film.dayOf(scene), days[scene]);
        }
    }

    private static void fillOnTheLastDay() {
        String days = "";
        for (int day = 0; day < 11; day++) {
            days += "day " + day + " " + day + ";";
        }
        FilmSchedule film = Check.film("location a 1 in;location b 1 in;" + "scene a 24;".repeat(11) + "scene b 20;scene b 4;scene b 1;"
            + days);
        Check.due("45: fill()", film.fill(), 2);
        Check.due("45: the last day", film.dayOf(11), 11);
        Check.due("45: the last day", film.dayOf(12), 11);
        Check.due("45: no day", film.dayOf(13), FilmSchedule.NOT_FOUND);
        Check.due("45: is one change", film.undoCount(), 1);
        Check.due("45: nothing more", film.fill(), 0);
        Check.due("45: is no change", film.undoCount(), 1);
    }

    private static void fillLeavesWhatHasNoDay() {
        FilmSchedule film = Check.film("set capacity 3;location a 1 in;scene a 4;scene a 3;scene a 5;scene a 3;");
        Check.due("45: fill()", film.fill(), 2);
        int[] days = {-1, 0, -1, 1};
        for (int scene = 0; scene < 4; scene++) {
            Check.due("45: dayOf " + scene, film.dayOf(scene), days[scene]);
        }
    }

    private static void fill() {
        FilmSchedule film = Check.film(TEXT);
        Check.due("45: fill()", film.fill(), 7);
        // 0 on 0; 1 at night on 1; 2 not behind 1 (q), on 3; 3 too long for 3, on 4; 4 with 0; 5 on 2; 6 never; 7 on 5
        int[] days = {0, 1, 3, 4, 0, 2, -1, 5};
        for (int scene = 0; scene < 8; scene++) {
            Check.due("45: dayOf " + scene, film.dayOf(scene), days[scene]);
        }
        Check.due("45: is one change", film.undoCount(), 1);
        Check.due("48: undo()", film.undo(), 0);
        Check.due("48: span()", film.span(), 0);
    }

    private static void fillOfNothing() {
        FilmSchedule film = Check.film(TEXT);
        film.fill();
        int cost = film.cost();
        Check.due("45: only the scene that never can", film.fill(), 0);
        Check.due("45: is no change", film.undoCount(), 1);
        Check.due("45: cost()", film.cost(), cost);
        Check.due("45: no scenes", new FilmSchedule().fill(), 0);
    }

    private static void fillKeepsTheRest() {
        FilmSchedule film = Check.film(TEXT + "day 6 0;day 0 3;");
        Check.due("45: fill()", film.fill(), 5);
        Check.due("45: stays", film.dayOf(0), 6);
        Check.due("45: stays", film.dayOf(3), 0);
        Check.due("45: night behind day", film.dayOf(1), 1);
        Check.due("45: a location of its own day", film.dayOf(2), 3);
        Check.due("45: lowest day", film.dayOf(4), 4);
        Check.due("45: a whole day", film.dayOf(5), 2);
        Check.due("45: not before a day of its cast", film.dayOf(7), 7);
    }

    private static void setSetting() {
        FilmSchedule film = Check.film(TEXT);
        int[] least = {1, 0, 0, 1};
        int[] most = {99, 9999, 100, 12};
        int[] previous = {10, 30, 50, 4};
        for (int setting = 0; setting < 4; setting++) {
            Check.due("47: previous " + setting, film.setSetting(setting, least[setting]), previous[setting]);
            Check.due("47: getSetting " + setting, film.getSetting(setting), least[setting]);
            Check.due("47: least " + setting, film.setSetting(setting, most[setting]), least[setting]);
            Check.due("47: the same value " + setting, film.setSetting(setting, most[setting]), most[setting]);
            Check.due("47: getSetting " + setting, film.getSetting(setting), most[setting]);
            Check.due("47: changes", film.undoCount(), 3 * setting + 3);
        }
    }

    private static void wrongSettings() {
        FilmSchedule film = Check.film(TEXT + "day 0 5;");
        int[] least = {1, 0, 0, 1};
        int[] most = {99, 9999, 100, 12};
        for (int setting = 0; setting < 4; setting++) {
            for (int wrong : new int[] {least[setting] - 1, most[setting] + 1, Integer.MIN_VALUE, Integer.MAX_VALUE}) {
                Check.due("47: " + setting + ", " + wrong, film.setSetting(setting, wrong), FilmSchedule.BAD_VALUE);
            }
        }
        for (int wrong : new int[] {-1, 4, Integer.MIN_VALUE, Integer.MAX_VALUE}) {
            Check.due("47: setting " + wrong, film.setSetting(wrong, 5), FilmSchedule.BAD_VALUE);
        }
        Check.due("47: changes nothing", film.undoCount(), 0);
        Check.due("47: changes nothing", film.getSetting(0), 10);
    }

    private static void capacityOfDays() {
        FilmSchedule film = Check.film(TEXT + "day 0 0 4;day 11 2;");
        Check.due("47: a day of 7", film.setSetting(FilmSchedule.CAPACITY, 6), FilmSchedule.IMPOSSIBLE);
        Check.due("47: capacity stays", film.getSetting(FilmSchedule.CAPACITY), 10);
        Check.due("47: a day of 7", film.setSetting(FilmSchedule.CAPACITY, 7), 10);
        Check.due("47: others are free of it", film.setSetting(FilmSchedule.DROP, 6), 4);
        Check.due("47: others are free of it", film.setSetting(FilmSchedule.MOVE, 6), 30);
        film.take(0);
        Check.due("47: a day of 6", film.setSetting(FilmSchedule.CAPACITY, 5), FilmSchedule.IMPOSSIBLE);
        Check.due("47: a day of 6", film.setSetting(FilmSchedule.CAPACITY, 6), 7);
        Check.due("30: capacity counts", film.reasonFor(0, 0), 3);
        Check.due("48: undo()", film.undo(), 4);
        Check.due("48: capacity", film.getSetting(FilmSchedule.CAPACITY), 7);
        Check.due("30: capacity counts", film.reasonFor(0, 0), 0);
    }

    private static void undo() {
        FilmSchedule film = Check.film(TEXT + "day 0 0 4;day 3 2;");
        int cost = film.cost();
        film.put(1, 7);
        film.setSetting(FilmSchedule.HOLD, 3);
        film.exchange(0, 3);
        film.take(2);
        film.fill();
        Check.due("8: undoCount()", film.undoCount(), 5);
        Check.due("48: fill", film.undo(), 4);
        Check.due("48: fill", film.dayOf(2), FilmSchedule.NOT_FOUND);
        Check.due("48: take", film.undo(), 3);
        Check.due("48: take", film.dayOf(2), 0);
        Check.due("48: exchange", film.undo(), 2);
        Check.due("48: exchange", film.dayOf(2), 3);
        Check.due("48: exchange", film.dayOf(4), 0);
        Check.due("48: setSetting", film.undo(), 1);
        Check.due("48: setSetting", film.getSetting(FilmSchedule.HOLD), 50);
        Check.due("48: put", film.undo(), 0);
        Check.due("48: put", film.dayOf(1), FilmSchedule.NOT_FOUND);
        Check.due("48: cost()", film.cost(), cost);
        Check.due("48: none", film.undo(), FilmSchedule.NOT_FOUND);
        Check.due("48: changes nothing", film.cost(), cost);
        Check.due("8: undoCount()", film.undoCount(), 0);
    }

    private static void twelveChanges() {
        FilmSchedule film = Check.film(TEXT);
        for (int change = 1; change <= 20; change++) {
            film.setSetting(FilmSchedule.MOVE, 100 + change);
            Check.due("8: undoCount()", film.undoCount(), Math.min(12, change));
        }
        for (int left = 11; left >= 0; left--) {
            Check.due("48: undo()", film.undo(), left);
            Check.due("48: move", film.getSetting(FilmSchedule.MOVE), 108 + left);
        }
        Check.due("48: the older ones are not kept", film.undo(), FilmSchedule.NOT_FOUND);
        Check.due("48: move", film.getSetting(FilmSchedule.MOVE), 108);
        film.put(0, 0);
        Check.due("8: again", film.undoCount(), 1);
        Check.due("48: again", film.undo(), 0);
    }

    private interface Change {
        int on(FilmSchedule film);
    }

    // On SMALL, with scene 0 on day 0 and scene 1 on no day, each makes something different.
    private static final String SMALL = "location a 7 in;scene a 24;scene a 24;scene a 24;day 0 0;day 2 2;";
    private static final Change[] KINDS = {film -> film.put(1, 5), film -> film.take(0), film -> film.exchange(0, 3),
        FilmSchedule::fill, FilmSchedule::useBestOrder, film -> film.setSetting(FilmSchedule.DROP, 9)};
    private static final int[] ANSWERS = {21, 7, 14, 1, 14, 4};

    /** "At most the 12 latest changes are kept": the 13th, of whatever kind, pushes out the oldest. */
    private static void thirteenthChangeOfEachKind() {
        for (int kind = 0; kind < 6; kind++) {
            FilmSchedule film = Check.film(SMALL);
            for (int change = 1; change <= 12; change++) {
                film.setSetting(FilmSchedule.MOVE, 500 + change);
            }
            Check.due("8: twelve", film.undoCount(), 12);
            String before = Check.plan(film);
            Check.due("kind " + kind, KINDS[kind].on(film), ANSWERS[kind]);
            Check.due("8: still twelve", film.undoCount(), 12);
            Check.due("48: the 13th", film.undo(), 11);
            Check.dueText("48: the 13th", Check.plan(film), before);
            for (int left = 10; left >= 0; left--) {
                Check.due("48: undo()", film.undo(), left);
            }
            Check.due("48: the first one is not kept", film.getSetting(FilmSchedule.MOVE), 501);
            Check.due("48: the first one is not kept", film.undo(), FilmSchedule.NOT_FOUND);
            Check.due("48: the first one is not kept", film.getSetting(FilmSchedule.MOVE), 501);
        }
    }

    /** "If a change makes nothing different, it is a change all the same." */
    private static void changesThatMakeNothingDifferent() {
        FilmSchedule film = Check.film(SMALL);
        film.exchange(1, 2);
        String plan = Check.plan(film);
        Check.due("42: put where it is", film.put(2, 1), 14);
        Check.due("42: is a change", film.undoCount(), 2);
        Check.due("44: a day with itself", film.exchange(0, 0), 14);
        Check.due("44: is a change", film.undoCount(), 3);
        Check.due("44: a free day with itself", film.exchange(11, 11), 14);
        Check.due("44: is a change", film.undoCount(), 4);
        Check.due("44: two free days", film.exchange(10, 11), 14);
        Check.due("44: is a change", film.undoCount(), 5);
        Check.due("46: the best order already", film.useBestOrder(), 14);
        Check.due("46: is a change", film.undoCount(), 6);
        for (int setting = 0; setting < 4; setting++) {
            int value = film.getSetting(setting);
            Check.due("47: the value that it has", film.setSetting(setting, value), value);
            Check.due("47: is a change", film.undoCount(), 7 + setting);
        }
        Check.dueText("nothing is different", Check.plan(film), plan);
        for (int left = 9; left > 0; left--) {
            Check.due("48: undo()", film.undo(), left);
            Check.dueText("48: nothing is different", Check.plan(film), plan);
        }
        Check.due("48: undo()", film.undo(), 0);
        Check.due("48: the first one made something different", film.dayOf(2), 2);
    }

    private static void changesBehindAnUndo() {
        FilmSchedule film = Check.film(SMALL);
        for (int change = 1; change <= 14; change++) {
            film.setSetting(FilmSchedule.MOVE, 500 + change);
        }
        for (int left = 11; left >= 7; left--) {
            Check.due("48: undo()", film.undo(), left);
        }
        Check.due("48: the 9th is the latest", film.getSetting(FilmSchedule.MOVE), 509);
        film.setSetting(FilmSchedule.MOVE, 601);
        film.setSetting(FilmSchedule.MOVE, 602);
        Check.due("8: undoCount()", film.undoCount(), 9);
        int[] values = {601, 509, 508, 507, 506, 505, 504, 503, 502};
        for (int undo = 0; undo < 9; undo++) {
            Check.due("48: undo()", film.undo(), 8 - undo);
            Check.due("48: move", film.getSetting(FilmSchedule.MOVE), values[undo]);
        }
        Check.due("48: none is kept", film.undo(), FilmSchedule.NOT_FOUND);
    }

    private static void undoIsNoChange() {
        FilmSchedule film = Check.film(SMALL);
        film.take(0);
        Check.due("48: undo()", film.undo(), 0);
        Check.due("8: undoCount()", film.undoCount(), 0);
        Check.due("48: undo() of the undo", film.undo(), FilmSchedule.NOT_FOUND);
        Check.due("15: dayOf(0)", film.dayOf(0), 0);
    }

    /** "A change can be undone; everything is then as before it." */
    private static void undoOfEachKind() {
        for (int kind = 0; kind < 6; kind++) {
            FilmSchedule film = Check.film(SMALL);
            String before = Check.state(film);
            Check.due("kind " + kind, KINDS[kind].on(film), ANSWERS[kind]);
            Check.due("kind " + kind + " makes something different", Check.state(film).equals(before), false);
            Check.due("48: undo() of kind " + kind, film.undo(), 0);
            Check.dueText("48: undo() of kind " + kind, Check.state(film), before);
            Check.due("40: bestCost() follows", film.bestCost(), 14);
            Check.due("41: bestOrder(1) follows", film.bestOrder(1), 2);
        }
    }

    /** "After a successful load nothing can be undone." */
    private static void nothingToUndoBehindALoad() {
        FilmSchedule film = Check.film(SMALL);
        for (int change = 1; change <= 13; change++) {
            film.setSetting(FilmSchedule.MOVE, 500 + change);
        }
        Check.due("3: load", Check.load(film, SMALL), 6);
        Check.due("8: undoCount()", film.undoCount(), 0);
        Check.due("48: undo()", film.undo(), FilmSchedule.NOT_FOUND);
        Check.due("11: move", film.getSetting(FilmSchedule.MOVE), 100);
        film.take(0);
        Check.due("48: undo() of a change behind it", film.undo(), 0);
        Check.due("15: dayOf(0)", film.dayOf(0), 0);
    }

    private static void errorsAreNoChanges() {
        FilmSchedule film = Check.film(TEXT + "day 0 0;");
        for (int change = 0; change < 12; change++) {
            film.setSetting(FilmSchedule.MOVE, 200 + change);
        }
        film.put(9, 0);
        film.put(0, 12);
        film.put(2, 0);
        film.take(5);
        film.exchange(0, 12);
        film.setSetting(FilmSchedule.CAPACITY, 3);
        film.setSetting(FilmSchedule.CAPACITY, 0);
        film.load(1);
        Check.load(film, "?");
        for (int left = 11; left >= 0; left--) {
            Check.due("48: undo()", film.undo(), left);
        }
        Check.due("48: all are undone", film.getSetting(FilmSchedule.MOVE), 30);
    }
}
