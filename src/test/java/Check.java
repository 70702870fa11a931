import java.nio.charset.StandardCharsets;
import java.util.Arrays;

/** What the tests have in common: the count of wrong answers, and texts for productions. */
final class Check {
    interface Call {
        void run();
    }

    private static int answers = 0;
    private static int wrong = 0;

    private Check() {
    }

    static void due(String call, long got, long want) {
        answers++;
        if (got != want) {
            wrong++;
            System.out.println(call + " answered " + got + ", due is " + want);
        }
    }

    static void due(String call, boolean got, boolean want) {
        due(call, got ? 1 : 0, want ? 1 : 0);
    }

    /** Only a throw statement makes the plain class; the machine's own exceptions are of classes below it. */
    static void dueIndexException(String call, Call run) {
        Class<?> thrown = null;
        try {
            run.run();
        } catch (RuntimeException e) {
            thrown = e.getClass();
        }
        answers++;
        if (thrown != IndexOutOfBoundsException.class) {
            wrong++;
            System.out.println(call + " threw " + thrown + ", due is IndexOutOfBoundsException");
        }
    }

    static FilmSchedule film(String text) {
        FilmSchedule film = new FilmSchedule();
        int statements = load(film, text);
        due("load of " + text, statements, text.chars().filter(sign -> sign == ';').count());
        return film;
    }

    static int load(FilmSchedule film, String text) {
        feedText(film, text);
        return film.load(text.length());
    }

    static int feedText(FilmSchedule film, String text) {
        byte[] signs = text.getBytes(StandardCharsets.ISO_8859_1);
        signs = Arrays.copyOf(signs, (signs.length + 19) / 20 * 20);
        int answer = 0;
        for (int at = 0; at < signs.length; at += 20) {
            answer = film.feed(four(signs, at), four(signs, at + 4), four(signs, at + 8), four(signs, at + 12),
                four(signs, at + 16));
        }
        return answer;
    }

    static int letters(String name) {
        int letters = 0;
        for (int place = 0; place < 6; place++) {
            letters = letters * 32 + (place < name.length() ? name.charAt(place) - 96 : 0);
        }
        return letters;
    }

    /** Everything that can be asked without a parameter out of range, but for errorPosition and the buffer. */
    static String state(FilmSchedule film) {
        StringBuilder state = new StringBuilder();
        for (int setting = 0; setting < 4; setting++) {
            state.append(film.getSetting(setting)).append(' ');
        }
        int locations = film.locationCount();
        for (int location = 0; location < locations; location++) {
            state.append(film.locationProperty(location, 0)).append(film.locationProperty(location, 1) == 1 ? "in " : "out ");
        }
        int actors = film.actorCount();
        for (int actor = 0; actor < actors; actor++) {
            state.append("fee ").append(film.feeOf(actor)).append(" cost ").append(film.actorCost(actor)).append(' ');
        }
        int scenes = film.sceneCount();
        for (int scene = 0; scene < scenes; scene++) {
            state.append('(');
            for (int what = 0; what < 4; what++) {
                state.append(film.sceneProperty(scene, what)).append(' ');
            }
            state.append(')');
        }
        for (int day = 0; day < 12; day++) {
            state.append(day).append(": ").append(film.scenesOn(day)).append(' ').append(film.locationOn(day)).append(' ')
                .append(film.isNight(day)).append(' ').append(film.lengthOn(day)).append(' ').append(film.castOn(day));
        }
        return state.append(plan(film)).append(film.span()).append(' ').append(film.moves()).append(' ')
            .append(film.cost()).append(' ').append(film.undoCount()).toString();
    }

    /** What changes can make different: the settings and the days of the scenes. */
    static String plan(FilmSchedule film) {
        StringBuilder plan = new StringBuilder(" settings");
        for (int setting = 0; setting < 4; setting++) {
            plan.append(' ').append(film.getSetting(setting));
        }
        plan.append(" days");
        int scenes = film.sceneCount();
        for (int scene = 0; scene < scenes; scene++) {
            plan.append(' ').append(film.dayOf(scene));
        }
        return plan.append(' ').toString();
    }

    static void dueText(String call, String got, String want) {
        answers++;
        if (!got.equals(want)) {
            wrong++;
            System.out.println(call + ": got " + got + ", due is " + want);
        }
    }

    /** Both objects must answer alike now and after each undo; the undos are spent by this. */
    static void dueAlike(String call, FilmSchedule film, FilmSchedule twin) {
        dueText(call, state(film), state(twin));
        int left = 0;
        for (int undos = 0; undos <= 12 && left >= 0; undos++) {
            left = twin.undo();
            due(call + ", undo()", film.undo(), left);
            dueText(call + ", after undo()", plan(film), plan(twin));
        }
    }

    static void end() {
        System.out.println(wrong + " of " + answers + " answers are not as due");
        if (wrong != 0) {
            System.exit(1);
        }
    }

    private static int four(byte[] signs, int at) {
        return (signs[at] & 255) << 24 | (signs[at + 1] & 255) << 16 | (signs[at + 2] & 255) << 8 | signs[at + 3] & 255;
    }
}
