import java.util.ArrayList;
import java.util.List;

/**
 * "A call that returns an error code or throws an exception changes nothing, except where its description says
 * otherwise": each refused call is made on one of two objects that are alike, with no change kept, with one, and with
 * all twelve (where a change kept by mistake would push out the oldest); then both must answer alike, through all undos.
 */
public final class RefusalTest {
    private static final int NOT_FOUND = FilmSchedule.NOT_FOUND, BAD_VALUE = FilmSchedule.BAD_VALUE,
        IMPOSSIBLE = FilmSchedule.IMPOSSIBLE, TOO_LARGE = FilmSchedule.TOO_LARGE;
    // Nine days are not free; scene 6 alone is not scheduled, and is too long for any day.
    private static final String TEXT = "set capacity 10;set move 30;location a 100 in;location b 50 out;"
        + "actor p 40;actor q 20;scene a 4 p;scene a 4 night q;scene b 6 p q;scene b 5 q;scene a 3 p q;scene a 10;"
        + "scene a 11;scene b 4 night p;scene b 5 night;scene a 9 p;"
        + "day 0 0;day 1 2;day 2 3;day 3 5;day 4 4;day 5 9;day 6 1;day 7 7;day 10 8;";
    private static final int[] KEPT = {0, 1, 12};
    private static final int LEAST = Integer.MIN_VALUE, MOST = Integer.MAX_VALUE;

    private interface Call {
        int on(FilmSchedule film);
    }

    private record Refused(String name, int code, Call call) {
    }

    public static void main(String[] args) {
        puts();
        takes();
        exchanges();
        fillWithNothingToSchedule();
        tooLargeOrders();
        settings();
        undoOfNothing();
        wrongQuestions();
        exceptions();
        loadsOfAWrongLength();
        feedOfAFullBuffer();
        loadsOfATextWithAnError();
        Check.end();
    }

    private static void puts() {
        List<Refused> calls = new ArrayList<>();
        for (int scene : new int[] {-1, 10, 14, LEAST, MOST}) {
            calls.add(new Refused("42: put scene " + scene, NOT_FOUND, film -> film.put(scene, 11)));
        }
        for (int day : new int[] {-1, 12, LEAST, MOST}) {
            calls.add(new Refused("42: put on day " + day, BAD_VALUE, film -> film.put(0, day)));
        }
        calls.add(new Refused("42: put for reason 1", IMPOSSIBLE, film -> film.put(0, 1)));
        calls.add(new Refused("42: put for reason 2", IMPOSSIBLE, film -> film.put(1, 0)));
        calls.add(new Refused("42: put for reason 3", IMPOSSIBLE, film -> film.put(5, 0)));
        calls.add(new Refused("42: put for reason 3 on a free day", IMPOSSIBLE, film -> film.put(6, 11)));
        calls.add(new Refused("42: put for reason 4", IMPOSSIBLE, film -> film.put(0, 8)));
        refuse(calls);
        FilmSchedule film = prepared(0);
        Check.due("30: reason 1", film.reasonFor(0, 1), 1);
        Check.due("30: reason 2", film.reasonFor(1, 0), 2);
        Check.due("30: reason 3", film.reasonFor(5, 0), 3);
        Check.due("30: reason 3", film.reasonFor(6, 11), 3);
        Check.due("30: reason 4", film.reasonFor(0, 8), 4);
    }

    private static void takes() {
        List<Refused> calls = new ArrayList<>();
        for (int scene : new int[] {-1, 10, 14, LEAST, MOST}) {
            calls.add(new Refused("43: take scene " + scene, NOT_FOUND, film -> film.take(scene)));
        }
        calls.add(new Refused("43: take a scene that is not scheduled", NOT_FOUND, film -> film.take(6)));
        refuse(calls);
    }

    private static void exchanges() {
        List<Refused> calls = new ArrayList<>();
        for (int day : new int[] {-1, 12, LEAST, MOST}) {
            calls.add(new Refused("44: exchange one " + day, BAD_VALUE, film -> film.exchange(day, 11)));
            calls.add(new Refused("44: exchange other " + day, BAD_VALUE, film -> film.exchange(0, day)));
            calls.add(new Refused("44: exchange both " + day, BAD_VALUE, film -> film.exchange(day, day)));
            // Of a turnaround too: a wrong day is no day.
            calls.add(new Refused("44: exchange a night with " + day, BAD_VALUE, film -> film.exchange(6, day)));
        }
        calls.add(new Refused("44: a night before a day", IMPOSSIBLE, film -> film.exchange(1, 6)));
        calls.add(new Refused("44: a day behind a night", IMPOSSIBLE, film -> film.exchange(0, 8)));
        refuse(calls);
    }

    private static void fillWithNothingToSchedule() {
        refuse(List.of(new Refused("45: fill", 0, FilmSchedule::fill)));
    }

    private static void tooLargeOrders() {
        refuse(List.of(new Refused("40: bestCost", TOO_LARGE, FilmSchedule::bestCost),
            new Refused("41: bestOrder", TOO_LARGE, film -> film.bestOrder(0)),
            new Refused("46: useBestOrder", TOO_LARGE, FilmSchedule::useBestOrder)));
    }

    private static void settings() {
        List<Refused> calls = new ArrayList<>();
        for (int setting : new int[] {-1, 4, LEAST, MOST}) {
            calls.add(new Refused("47: setting " + setting, BAD_VALUE, film -> film.setSetting(setting, 10)));
        }
        int[][] wrong = {{0, 100, LEAST, MOST}, {-1, 10000, LEAST, MOST}, {-1, 101, LEAST, MOST}, {0, 13, LEAST, MOST}};
        for (int setting = 0; setting < 4; setting++) {
            int it = setting;
            for (int value : wrong[setting]) {
                calls.add(new Refused("47: " + it + " " + value, BAD_VALUE, film -> film.setSetting(it, value)));
            }
        }
        calls.add(new Refused("47: a longer day", IMPOSSIBLE, film -> film.setSetting(FilmSchedule.CAPACITY, 9)));
        calls.add(new Refused("47: a longer day", IMPOSSIBLE, film -> film.setSetting(FilmSchedule.CAPACITY, 1)));
        refuse(calls);
    }

    private static void undoOfNothing() {
        FilmSchedule film = prepared(0);
        Check.due("48: undo", film.undo(), NOT_FOUND);
        Check.due("48: undo again", film.undo(), NOT_FOUND);
        Check.dueAlike("48: undo", film, prepared(0));
    }

    private static void wrongQuestions() {
        List<Refused> calls = new ArrayList<>();
        calls.add(new Refused("11: getSetting", BAD_VALUE, film -> film.getSetting(4)));
        calls.add(new Refused("12: locationProperty", BAD_VALUE, film -> film.locationProperty(0, 2)));
        calls.add(new Refused("14: sceneProperty", BAD_VALUE, film -> film.sceneProperty(0, 4)));
        calls.add(new Refused("25: daysWith", BAD_VALUE, film -> film.daysWith(0, 4)));
        calls.add(new Refused("32: costWith", IMPOSSIBLE, film -> film.costWith(0, 8)));
        calls.add(new Refused("33: bestDay", NOT_FOUND, film -> film.bestDay(6)));
        calls.add(new Refused("36: rainDays", BAD_VALUE, film -> film.rainDays(4096)));
        calls.add(new Refused("37: rainLost", BAD_VALUE, film -> film.rainLost(4096)));
        calls.add(new Refused("38: rainDay", BAD_VALUE, film -> film.rainDay(4096, 0)));
        calls.add(new Refused("38: rainDay", BAD_VALUE, film -> film.rainDay(0, -1)));
        refuse(calls);
    }

    private static void exceptions() {
        for (int kept : KEPT) {
            FilmSchedule film = prepared(kept);
            Check.dueIndexException("12: locationProperty", () -> film.locationProperty(2, 0));
            Check.dueIndexException("13: feeOf", () -> film.feeOf(2));
            Check.dueIndexException("14: sceneProperty", () -> film.sceneProperty(10, 0));
            Check.dueIndexException("15: dayOf", () -> film.dayOf(10));
            Check.dueIndexException("16: scenesOn", () -> film.scenesOn(12));
            Check.dueIndexException("17: locationOn", () -> film.locationOn(12));
            Check.dueIndexException("18: isNight", () -> film.isNight(12));
            Check.dueIndexException("19: lengthOn", () -> film.lengthOn(12));
            Check.dueIndexException("20: castOn", () -> film.castOn(12));
            Check.dueIndexException("22: statusOf", () -> film.statusOf(2, 0));
            Check.dueIndexException("22: statusOf", () -> film.statusOf(0, 12));
            Check.dueIndexException("23: firstDay", () -> film.firstDay(2));
            Check.dueIndexException("24: lastDay", () -> film.lastDay(2));
            Check.dueIndexException("25: daysWith", () -> film.daysWith(2, 0));
            Check.dueIndexException("26: actorCost", () -> film.actorCost(2));
            Check.dueIndexException("30: reasonFor", () -> film.reasonFor(10, 0));
            Check.dueIndexException("30: reasonFor", () -> film.reasonFor(0, 12));
            Check.dueIndexException("31: daysFor", () -> film.daysFor(10));
            Check.dueIndexException("32: costWith", () -> film.costWith(10, 0));
            Check.dueIndexException("32: costWith", () -> film.costWith(0, 12));
            Check.dueIndexException("33: bestDay", () -> film.bestDay(10));
            Check.dueIndexException("35: waitingFor", () -> film.waitingFor(2, true));
            Check.dueAlike("exceptions with " + kept + " changes", film, prepared(kept));
        }
    }

    /** "BAD_VALUE if length is out of range (the buffer is unchanged then)". */
    private static void loadsOfAWrongLength() {
        for (int kept : KEPT) {
            for (int length : new int[] {-1, 41, 900, 901, LEAST, MOST}) {
                FilmSchedule film = prepared(kept);
                FilmSchedule twin = prepared(kept);
                Check.load(film, "actor p ?");
                Check.load(twin, "actor p ?");
                String text = "actor xyz 77;location k 5 in;scene k 1;";
                Check.due("2: feed", Check.feedText(film, text), 40);
                Check.due("3: load(" + length + ")", film.load(length), BAD_VALUE);
                Check.due("4: errorPosition() stays", film.errorPosition(), 8);
                Check.dueAlike("3: load(" + length + ") with " + kept + " changes", film, twin);
                Check.due("3: the buffer holds as much as before", film.load(41), BAD_VALUE);
                Check.due("3: the buffer holds the same as before", film.load(39), 3);
                Check.due("3: the buffer holds the same as before", film.actorNamed(Check.letters("xyz")), 0);
                Check.due("3: the buffer holds the same as before", film.feeOf(0), 77);
            }
        }
    }

    /** "FULL if the buffer would hold more than 900 bytes (nothing is appended then)". */
    private static void feedOfAFullBuffer() {
        for (int kept : KEPT) {
            FilmSchedule film = prepared(kept);
            Check.feedText(film, " ".repeat(880) + "actor a 1;actor b 2;");
            Check.due("2: feed", film.feed(-1, -1, -1, -1, -1), FilmSchedule.FULL);
            Check.dueAlike("2: feed with " + kept + " changes", film, prepared(kept));
            Check.due("2: feed again", film.feed(0, 0, 0, 0, 0), FilmSchedule.FULL);
            Check.due("3: load(901)", film.load(901), BAD_VALUE);
            Check.due("3: load(900)", film.load(900), 2);
            Check.due("3: the last byte is there", film.feeOf(1), 2);
        }
    }

    /** "If the text has an error, nothing but the buffer changes: it is emptied all the same". */
    private static void loadsOfATextWithAnError() {
        String start = "set drop 9;location x 1 in;location y 1 in;actor z 1;scene x 20 z;";
        String[] texts = {"x", "actor v 10000;", "scene z 1;", "actor x 1;", "day 0 0;set move 1;",
            "scene y 1;day 0 0 1;", "location u 1 in;location v 1 in;location w 1 in;"};
        for (int error = 0; error < 7; error++) {
            for (int kept : KEPT) {
                FilmSchedule film = prepared(kept);
                Check.due("3: load with error " + error, Check.load(film, start + texts[error]), -11 - error);
                Check.due("3: the buffer is empty", film.load(1), BAD_VALUE);
                Check.due("3: the name of a location stays", film.locationNamed(Check.letters("b")), 1);
                Check.due("3: no new name of a location", film.locationNamed(Check.letters("x")), NOT_FOUND);
                Check.due("3: the name of an actor stays", film.actorNamed(Check.letters("q")), 1);
                Check.due("3: no new name of an actor", film.actorNamed(Check.letters("z")), NOT_FOUND);
                Check.dueAlike("3: load with error " + error + " and " + kept + " changes", film, prepared(kept));
                Check.due("2: feed begins again", film.feed(0, 0, 0, 0, 0), 20);
            }
        }
    }

    private static void refuse(List<Refused> calls) {
        for (Refused refused : calls) {
            for (int kept : KEPT) {
                FilmSchedule film = prepared(kept);
                Check.due(refused.name, refused.call.on(film), refused.code);
                Check.dueAlike(refused.name + " with " + kept + " changes", film, prepared(kept));
                Check.due("4: errorPosition()", film.errorPosition(), NOT_FOUND);
            }
        }
    }

    /** All changes lead back to the same days, and each can be told from the others when it is undone. */
    private static FilmSchedule prepared(int changes) {
        FilmSchedule film = Check.film(TEXT);
        for (int change = 0; change < changes; change++) {
            film.setSetting(FilmSchedule.MOVE, 200 + change);
        }
        Check.due("8: undoCount()", film.undoCount(), changes);
        return film;
    }
}
