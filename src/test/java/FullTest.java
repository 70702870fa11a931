/** The empty production and the full one: what there is at least, what there is at most, and the first that is not. */
public final class FullTest {
    private static final int NOT_FOUND = FilmSchedule.NOT_FOUND, BAD_VALUE = FilmSchedule.BAD_VALUE,
        IMPOSSIBLE = FilmSchedule.IMPOSSIBLE, TOO_LARGE = FilmSchedule.TOO_LARGE;
    private static final String[] LOCATIONS = {"a", "bb", "cccccc", "zzzzzz"};
    private static final int[] RATES = {0, 9999, 1, 9998};
    private static final String[] ACTORS = {"p", "pp", "ppp", "pppp", "ppppp", "pppppp"};
    private static final int[] FEES = {0, 9999, 1, 2, 3, 9998};

    public static void main(String[] args) {
        emptyProductionHasNoIndex();
        emptyProductionHasDays();
        emptyProductionCanBeChanged();
        emptyProductionInRain();
        locationsWithoutActorsAndScenes();
        fullProductionReadsBack();
        fullProductionHasNamesOfItsOwn();
        fullProductionEndsThere();
        declaredInAnyOrder();
        dayWithAllScenes();
        dayOfNinetyNine();
        dayOfOne();
        everyDayIsBusy();
        largestCost();
        largestHoldingCost();
        nothingToPay();
        bestOrderOfAFullProduction();
        mostCalls();
        Check.end();
    }

    private static void emptyProductionHasNoIndex() {
        indicesEnd(new FilmSchedule(), 0, 0, 0);
    }

    private static void emptyProductionHasDays() {
        FilmSchedule film = new FilmSchedule();
        for (int day = 0; day < 12; day++) {
            Check.due("16: scenesOn", film.scenesOn(day), 0);
            Check.due("17: locationOn", film.locationOn(day), NOT_FOUND);
            Check.due("18: isNight", film.isNight(day), false);
            Check.due("19: lengthOn", film.lengthOn(day), 0);
            Check.due("20: castOn", film.castOn(day), 0);
        }
        Check.due("21: span()", film.span(), 0);
        Check.due("27: moves()", film.moves(), 0);
        Check.due("28: cost()", film.cost(), 0);
        Check.due("29: holdingCost()", film.holdingCost(), 0);
        Check.due("34: fewestDays()", film.fewestDays(), 0);
        Check.due("40: bestCost()", film.bestCost(), 0);
        Check.due("41: bestOrder(0)", film.bestOrder(0), NOT_FOUND);
    }

    private static void emptyProductionCanBeChanged() {
        FilmSchedule film = new FilmSchedule();
        Check.due("42: put(0, 0)", film.put(0, 0), NOT_FOUND);
        Check.due("43: take(0)", film.take(0), NOT_FOUND);
        Check.due("45: fill()", film.fill(), 0);
        Check.due("8: none of them is a change", film.undoCount(), 0);
        Check.due("44: exchange(0, 11)", film.exchange(0, 11), 0);
        Check.due("46: useBestOrder()", film.useBestOrder(), 0);
        Check.due("47: setSetting(CAPACITY, 1)", film.setSetting(FilmSchedule.CAPACITY, 1), 24);
        Check.due("8: all of them are changes", film.undoCount(), 3);
        Check.due("48: undo()", film.undo(), 2);
        Check.due("48: capacity", film.getSetting(FilmSchedule.CAPACITY), 24);
    }

    private static void emptyProductionInRain() {
        FilmSchedule film = new FilmSchedule();
        for (int rain : new int[] {0, 1, 2048, 4095}) {
            Check.due("36: rainDays " + rain, film.rainDays(rain), 0);
            Check.due("37: rainLost " + rain, film.rainLost(rain), 0);
            Check.due("38: rainDay " + rain, film.rainDay(rain, 0), NOT_FOUND);
            Check.due("38: rainDay " + rain, film.rainDay(rain, Integer.MAX_VALUE), NOT_FOUND);
        }
        Check.due("36: rainDays(4096)", film.rainDays(4096), BAD_VALUE);
        Check.due("37: rainLost(-1)", film.rainLost(-1), BAD_VALUE);
        Check.due("38: rainDay(0, -1)", film.rainDay(0, -1), BAD_VALUE);
        Check.due("39: worstRain()", film.worstRain(), 0);
    }

    private static void locationsWithoutActorsAndScenes() {
        indicesEnd(Check.film("location a 7 in;"), 1, 0, 0);
        indicesEnd(Check.film("actor p 7;"), 0, 1, 0);
        indicesEnd(Check.film("location a 7 in;scene a 1;"), 1, 0, 1);
        indicesEnd(Check.film("location a 7 in;actor p 1;scene a 1;scene a 1;"), 1, 1, 2);
    }

    private static void fullProductionReadsBack() {
        FilmSchedule film = Check.film(fullText());
        Check.due("5: locationCount()", film.locationCount(), 4);
        Check.due("6: actorCount()", film.actorCount(), 6);
        Check.due("7: sceneCount()", film.sceneCount(), 14);
        for (int location = 0; location < 4; location++) {
            Check.due("12: rate of " + location, film.locationProperty(location, 0), RATES[location]);
            Check.due("12: indoors " + location, film.locationProperty(location, 1), location % 2);
        }
        for (int actor = 0; actor < 6; actor++) {
            Check.due("13: fee of " + actor, film.feeOf(actor), FEES[actor]);
        }
        for (int scene = 0; scene < 14; scene++) {
            Check.due("14: location of " + scene, film.sceneProperty(scene, 0), scene % 4);
            Check.due("14: length of " + scene, film.sceneProperty(scene, 1), lengthOf(scene));
            Check.due("14: night of " + scene, film.sceneProperty(scene, 2), scene % 3 == 0 ? 1 : 0);
            Check.due("14: cast of " + scene, film.sceneProperty(scene, 3), castOf(scene));
            Check.due("15: day of " + scene, film.dayOf(scene), NOT_FOUND);
        }
        Check.due("11: capacity", film.getSetting(0), 99);
        Check.due("11: move", film.getSetting(1), 9999);
        Check.due("11: hold", film.getSetting(2), 100);
        Check.due("11: drop", film.getSetting(3), 12);
    }

    private static void fullProductionHasNamesOfItsOwn() {
        FilmSchedule film = Check.film(fullText());
        for (int location = 0; location < 4; location++) {
            int letters = Check.letters(LOCATIONS[location]);
            Check.due("9: " + LOCATIONS[location], film.locationNamed(letters), location);
            Check.due("10: " + LOCATIONS[location], film.actorNamed(letters), NOT_FOUND);
        }
        for (int actor = 0; actor < 6; actor++) {
            int letters = Check.letters(ACTORS[actor]);
            Check.due("10: " + ACTORS[actor], film.actorNamed(letters), actor);
            Check.due("9: " + ACTORS[actor], film.locationNamed(letters), NOT_FOUND);
            Check.due("10: a name at the lower end", film.actorNamed(letters >> 5 * (5 - actor)), actor == 5 ? 5 : NOT_FOUND);
        }
        for (int letters : new int[] {0, 1, -1, Integer.MIN_VALUE, Integer.MAX_VALUE, 27 << 25, 31 << 25}) {
            Check.due("9: letters " + letters, film.locationNamed(letters), NOT_FOUND);
            Check.due("10: letters " + letters, film.actorNamed(letters), NOT_FOUND);
        }
        for (int bit = 0; bit < 32; bit++) {
            Check.due("9: bit " + bit, film.locationNamed(Check.letters("zzzzzz") ^ 1 << bit), NOT_FOUND);
        }
    }

    private static void fullProductionEndsThere() {
        indicesEnd(Check.film(fullText()), 4, 6, 14);
    }

    /** "each indexed from 0 in the order in which they are declared": also with others in between. */
    private static void declaredInAnyOrder() {
        FilmSchedule film = Check.film("actor q 2;location b 1 out;scene b 3 q;actor p 1;scene b 4 p;location a 9 in;"
            + "scene a 5 q p;day 4 1;actor r 8;scene b 6 r;day 5 3;");
        Check.due("9: b", film.locationNamed(Check.letters("b")), 0);
        Check.due("9: a", film.locationNamed(Check.letters("a")), 1);
        Check.due("10: q", film.actorNamed(Check.letters("q")), 0);
        Check.due("10: p", film.actorNamed(Check.letters("p")), 1);
        Check.due("10: r", film.actorNamed(Check.letters("r")), 2);
        int[][] scenes = {{0, 3, 1, -1}, {0, 4, 2, 4}, {1, 5, 3, -1}, {0, 6, 4, 5}};
        for (int scene = 0; scene < 4; scene++) {
            Check.due("14: location of " + scene, film.sceneProperty(scene, 0), scenes[scene][0]);
            Check.due("14: length of " + scene, film.sceneProperty(scene, 1), scenes[scene][1]);
            Check.due("14: cast of " + scene, film.sceneProperty(scene, 3), scenes[scene][2]);
            Check.due("15: day of " + scene, film.dayOf(scene), scenes[scene][3]);
        }
    }

    private static void dayWithAllScenes() {
        String text = "set capacity 98;location a 5 in;actor p 1;actor q 1;actor r 1;actor s 1;actor t 1;actor u 1;"
            + "scene a 7 p q r s t u;" + "scene a 7;".repeat(13);
        FilmSchedule film = Check.film(text);
        Check.due("35: all wait", film.waitingFor(0, false), 14);
        Check.due("45: fill()", film.fill(), 14);
        Check.due("16: scenesOn(0)", film.scenesOn(0), 16383);
        Check.due("19: lengthOn(0)", film.lengthOn(0), 98);
        Check.due("20: castOn(0)", film.castOn(0), 63);
        Check.due("35: none waits", film.waitingFor(0, false), 0);
        Check.due("34: fewestDays()", film.fewestDays(), 1);
        Check.due("47: a day would be longer", film.setSetting(FilmSchedule.CAPACITY, 97), IMPOSSIBLE);
        Check.due("47: just as long", film.setSetting(FilmSchedule.CAPACITY, 98), 98);
        film.take(13);
        Check.due("47: it is shorter now", film.setSetting(FilmSchedule.CAPACITY, 97), 98);
        Check.due("30: one too many", film.reasonFor(13, 0), 3);
        Check.due("34: fewestDays()", film.fewestDays(), 2);
    }

    private static void dayOfNinetyNine() {
        FilmSchedule film = Check.film("set capacity 99;location a 0 in;scene a 60;scene a 39;scene a 40;scene a 1;day 11 0;");
        Check.due("30: 99", film.reasonFor(1, 11), 0);
        Check.due("30: 100", film.reasonFor(2, 11), 3);
        Check.due("42: 99", film.put(1, 11), 0);
        Check.due("19: 99", film.lengthOn(11), 99);
        Check.due("30: one more", film.reasonFor(3, 11), 3);
        Check.due("42: one more", film.put(3, 11), IMPOSSIBLE);
        Check.due("47: 98", film.setSetting(FilmSchedule.CAPACITY, 98), IMPOSSIBLE);
        Check.due("47: 100", film.setSetting(FilmSchedule.CAPACITY, 100), BAD_VALUE);
    }

    private static void dayOfOne() {
        FilmSchedule film = Check.film("set capacity 1;location a 0 in;scene a 1;scene a 2;scene a 1;");
        Check.due("31: a scene of 1", film.daysFor(0), 4095);
        Check.due("31: a scene of 2", film.daysFor(1), 0);
        Check.due("45: fill()", film.fill(), 2);
        Check.due("15: dayOf(2)", film.dayOf(2), 1);
        Check.due("30: no room", film.reasonFor(2, 0), 3);
        Check.due("30: its own room", film.reasonFor(0, 0), 0);
        Check.due("34: fewestDays()", film.fewestDays(), 4);
    }

    private static void everyDayIsBusy() {
        FilmSchedule film = Check.film("set capacity 9;location a 10 in;location b 20 out;" + "scene a 9;scene b 9;".repeat(6)
            + "scene a 1;scene b 1 night;day 0 0;day 1 1;day 2 2;day 3 3;day 4 4;day 5 5;day 6 6;day 7 7;day 8 8;day 9 9;"
            + "day 10 10;day 11 11;");
        Check.due("21: span()", film.span(), 12);
        Check.due("27: moves()", film.moves(), 11);
        Check.due("28: cost()", film.cost(), 180 + 1100);
        Check.due("30: too long", film.reasonFor(12, 0), 3);
        Check.due("30: another location", film.reasonFor(12, 11), 1);
        Check.due("30: another time", film.reasonFor(13, 11), 2);
        Check.due("31: daysFor(12)", film.daysFor(12), 0);
        Check.due("31: daysFor(0)", film.daysFor(0), 1);
        Check.due("33: bestDay(12)", film.bestDay(12), NOT_FOUND);
        Check.due("33: bestDay(11)", film.bestDay(11), 11);
        Check.due("45: fill()", film.fill(), 0);
        Check.due("8: is no change", film.undoCount(), 0);
        Check.due("40: bestCost()", film.bestCost(), TOO_LARGE);
        Check.due("44: the first and the last day", film.exchange(0, 11), 180 + 900);
        Check.due("43: take(5)", film.take(5), 160 + 900 - 200);
        Check.due("31: the day that is free", film.daysFor(13), 32);
        Check.due("33: the day that is free", film.bestDay(13), 5);
        Check.due("45: it takes the first scene that waits", film.fill(), 1);
        Check.due("15: dayOf(5)", film.dayOf(5), 5);
    }

    private static void largestCost() {
        StringBuilder text = new StringBuilder("set capacity 1;set move 9999;location a 9999 in;location b 9999 in;");
        for (String actor : "p q r s t u".split(" ")) {
            text.append("actor ").append(actor).append(" 9999;");
        }
        text.append("scene a 1 p q r s t u;scene b 1 p q r s t u;".repeat(6));
        for (int day = 0; day < 12; day++) {
            text.append("day ").append(day).append(' ').append(day).append(';');
        }
        FilmSchedule film = Check.film(text.toString());
        Check.due("26: actorCost(5)", film.actorCost(5), 12 * 9999);
        Check.due("28: cost()", film.cost(), (6 * 12 + 12 + 11) * 9999);
        Check.due("32: costWith(11, 11)", film.costWith(11, 11), 949905);
        Check.due("42: put(11, 11)", film.put(11, 11), 949905);
        Check.due("25: works on all days", film.daysWith(0, FilmSchedule.WORK), 12);
        Check.due("25: off on none", film.daysWith(0, FilmSchedule.OFF), 0);
    }

    private static void largestHoldingCost() {
        FilmSchedule film = Check.film("set hold 100;set drop 12;location a 0 in;actor p 9999;actor q 9999;actor r 9999;"
            + "actor s 9999;actor t 9999;actor u 9999;scene a 1 p q r s t u;scene a 1 p q r s t u;day 0 0;day 11 1;");
        Check.due("29: holdingCost()", film.holdingCost(), 6 * 10 * 9999);
        Check.due("28: cost()", film.cost(), 6 * 12 * 9999);
        film.setSetting(FilmSchedule.HOLD, 99);
        Check.due("29: 9899.01 is rounded down", film.holdingCost(), 6 * 10 * 9899);
        film.setSetting(FilmSchedule.HOLD, 1);
        Check.due("29: 99.99 is rounded down", film.holdingCost(), 6 * 10 * 99);
        film.setSetting(FilmSchedule.HOLD, 0);
        Check.due("29: nothing", film.holdingCost(), 0);
    }

    private static void nothingToPay() {
        FilmSchedule film = Check.film("set move 0;set hold 99;location a 0 in;location b 0 in;actor p 0;actor q 1;"
            + "scene a 1 p;scene b 1 p;scene a 1 p;scene b 1 q;scene b 1 q;day 0 0;day 1 1;day 3 2;");
        Check.due("27: moves()", film.moves(), 2);
        Check.due("28: cost()", film.cost(), 0);
        Check.due("40: bestCost()", film.bestCost(), 0);
        film.put(3, 4);
        film.put(4, 6);
        Check.due("26: 0.99 is rounded down", film.actorCost(1), 2);
        Check.due("29: 0.99 is rounded down", film.holdingCost(), 0);
        film.setSetting(FilmSchedule.HOLD, 100);
        Check.due("26: a whole fee", film.actorCost(1), 3);
    }

    /** Six actors, fourteen scenes and seven days: the most that a search is made for. */
    private static void bestOrderOfAFullProduction() {
        StringBuilder text = new StringBuilder("set drop 12;location a 1 in;actor p 10;actor q 10;actor r 10;actor s 10;"
            + "actor t 10;actor u 10;scene a 12 u;scene a 12 p q r s t;" + "scene a 12;".repeat(11) + "scene a 12 u;");
        for (int day = 5; day <= 11; day++) {
            text.append("day ").append(day).append(' ').append(day - 5).append(' ').append(day + 2).append(';');
        }
        FilmSchedule film = Check.film(text.toString());
        // u works on the days 5 and 11 and is not held if they come together.
        Check.due("28: cost()", film.cost(), 7 + 70 + 25);
        Check.due("40: bestCost()", film.bestCost(), 7 + 70);
        int[] order = {5, 11, 6, 7, 8, 9, 10};
        for (int place = 0; place < 7; place++) {
            Check.due("41: bestOrder " + place, film.bestOrder(place), order[place]);
        }
        Check.due("41: bestOrder 7", film.bestOrder(7), NOT_FOUND);
        Check.due("46: useBestOrder()", film.useBestOrder(), 77);
        int[] days = {0, 2, 3, 4, 5, 6, 1};
        for (int scene = 0; scene < 14; scene++) {
            Check.due("46: dayOf " + scene, film.dayOf(scene), days[scene % 7]);
        }
        Check.due("48: undo()", film.undo(), 0);
        for (int scene = 0; scene < 14; scene++) {
            Check.due("48: dayOf " + scene, film.dayOf(scene), 5 + scene % 7);
        }
    }

    /** "An object is used for at most 512 calls": all of them are answered, the last one too. */
    private static void mostCalls() {
        FilmSchedule film = new FilmSchedule();
        // Four calls: three feeds of 20 bytes and the load.
        Check.due("3: load", Check.load(film, "location a 3 out;actor p 4;scene a 1 p;scene a 2;day 6 0;"), 5);
        int calls = 4;
        for (int round = 0; calls <= 512 - 8; round++) {
            int day = round % 6;
            Check.due("42: put", film.put(1, day), 10);
            Check.due("15: dayOf", film.dayOf(1), day);
            Check.due("40: bestCost", film.bestCost(), 10);
            Check.due("41: bestOrder", film.bestOrder(1), 6);
            // The free days in front are shot in the rain; all others, up to day 6, wait for calendar day 12.
            Check.due("36: rainDays", film.rainDays(4095), 12 + 7 - day);
            Check.due("45: fill", film.fill(), 0);
            Check.dueIndexException("13: feeOf", () -> film.feeOf(1));
            Check.due("8: undoCount", film.undoCount(), Math.min(12, round + 1));
            calls += 8;
        }
        Check.due("the calls so far", calls, 508);
        Check.due("46: useBestOrder", film.useBestOrder(), 10);
        Check.due("43: take", film.take(0), 3);
        Check.due("48: undo", film.undo(), 11);
        Check.due("28: cost, the 512th call", film.cost(), 10);
    }

    private static void indicesEnd(FilmSchedule film, int locations, int actors, int scenes) {
        Check.due("5: locationCount()", film.locationCount(), locations);
        Check.due("6: actorCount()", film.actorCount(), actors);
        Check.due("7: sceneCount()", film.sceneCount(), scenes);
        for (int wrong : new int[] {-1, locations, Integer.MIN_VALUE, Integer.MAX_VALUE}) {
            Check.dueIndexException("12: locationProperty " + wrong, () -> film.locationProperty(wrong, 1));
            Check.dueIndexException("35: waitingFor " + wrong, () -> film.waitingFor(wrong, false));
        }
        for (int wrong : new int[] {-1, actors, Integer.MIN_VALUE, Integer.MAX_VALUE}) {
            Check.dueIndexException("13: feeOf " + wrong, () -> film.feeOf(wrong));
            Check.dueIndexException("22: statusOf " + wrong, () -> film.statusOf(wrong, 11));
            Check.dueIndexException("23: firstDay " + wrong, () -> film.firstDay(wrong));
            Check.dueIndexException("24: lastDay " + wrong, () -> film.lastDay(wrong));
            Check.dueIndexException("25: daysWith " + wrong, () -> film.daysWith(wrong, FilmSchedule.DROPPED));
            Check.dueIndexException("26: actorCost " + wrong, () -> film.actorCost(wrong));
        }
        for (int wrong : new int[] {-1, scenes, Integer.MIN_VALUE, Integer.MAX_VALUE}) {
            Check.dueIndexException("14: sceneProperty " + wrong, () -> film.sceneProperty(wrong, 3));
            Check.dueIndexException("15: dayOf " + wrong, () -> film.dayOf(wrong));
            Check.dueIndexException("30: reasonFor " + wrong, () -> film.reasonFor(wrong, 11));
            Check.dueIndexException("31: daysFor " + wrong, () -> film.daysFor(wrong));
            Check.dueIndexException("32: costWith " + wrong, () -> film.costWith(wrong, 11));
            Check.dueIndexException("33: bestDay " + wrong, () -> film.bestDay(wrong));
            Check.due("42: put " + wrong, film.put(wrong, 11), NOT_FOUND);
            Check.due("43: take " + wrong, film.take(wrong), NOT_FOUND);
        }
        lastIndicesAnswer(film, locations - 1, actors - 1, scenes - 1);
    }

    private static void lastIndicesAnswer(FilmSchedule film, int location, int actor, int scene) {
        if (location >= 0) {
            Check.due("12: the last location", film.locationProperty(location, 1) >= 0, true);
            Check.due("35: the last location", film.waitingFor(location, false) >= 0, true);
        }
        if (actor >= 0) {
            Check.due("13: the last actor", film.feeOf(actor) >= 0, true);
            Check.due("22: the last actor", film.statusOf(actor, 11), FilmSchedule.OFF);
            Check.due("23: the last actor", film.firstDay(actor), NOT_FOUND);
            Check.due("24: the last actor", film.lastDay(actor), NOT_FOUND);
            Check.due("25: the last actor", film.daysWith(actor, FilmSchedule.OFF), 12);
            Check.due("26: the last actor", film.actorCost(actor), 0);
        }
        if (scene >= 0) {
            Check.due("14: the last scene", film.sceneProperty(scene, 1) > 0, true);
            Check.due("15: the last scene", film.dayOf(scene), NOT_FOUND);
            Check.due("30: the last scene", film.reasonFor(scene, 11), 0);
            Check.due("31: the last scene", film.daysFor(scene), 4095);
            Check.due("32: the last scene", film.costWith(scene, 11) >= 0, true);
            Check.due("33: the last scene", film.bestDay(scene), 0);
            Check.due("42: the last scene", film.put(scene, 11), film.cost());
            Check.due("43: the last scene", film.take(scene), 0);
        }
    }

    private static String fullText() {
        StringBuilder text = new StringBuilder("set capacity 99;set move 9999;set hold 100;set drop 12;");
        for (int location = 0; location < 4; location++) {
            text.append("location ").append(LOCATIONS[location]).append(' ').append(RATES[location]);
            text.append(location % 2 == 1 ? " in;" : " out;");
        }
        for (int actor = 0; actor < 6; actor++) {
            text.append("actor ").append(ACTORS[actor]).append(' ').append(FEES[actor]).append(';');
        }
        for (int scene = 0; scene < 14; scene++) {
            text.append("scene ").append(LOCATIONS[scene % 4]).append(' ').append(lengthOf(scene));
            text.append(scene % 3 == 0 ? " night" : "");
            for (int actor = 0; actor < 6; actor++) {
                text.append((castOf(scene) >> actor & 1) == 1 ? " " + ACTORS[actor] : "");
            }
            text.append(';');
        }
        return text.toString();
    }

    private static int lengthOf(int scene) {
        return scene == 13 ? 60 : scene + 1;
    }

    private static int castOf(int scene) {
        return scene == 13 ? 63 : scene * 9 & 63;
    }
}
