import java.nio.charset.StandardCharsets;
import java.util.Arrays;

/** What the tests have in common: the count of wrong answers, and texts for productions. */
final class Check {
    interface Call {
        void run();
    }

    private static int answers = 0;
    private static int wrong = 0;

    private Check() {
    }

    static void due(String call, long got, long want) {
        answers++;
        if (got != want) {
            wrong++;
            System.out.println(call + " answered " + got + ", due is " + want);
        }
    }

    static void due(String call, boolean got, boolean want) {
        due(call, got ? 1 : 0, want ? 1 : 0);
    }

    /** Only a throw statement makes the plain class; the machine's own exceptions are of classes below it. */
    static void dueIndexException(String call, Call run) {
        Class<?> thrown = null;
        try {
            run.run();
        } catch (RuntimeException e) {
            thrown = e.getClass();
        }
        answers++;
        if (thrown != IndexOutOfBoundsException.class) {
            wrong++;
            System.out.println(call + " threw " + thrown + ", due is IndexOutOfBoundsException");
        }
    }

    static FilmSchedule film(String text) {
        FilmSchedule film = new FilmSchedule();
        int statements = load(film, text);
        due("load of " + text, statements, text.chars().filter(sign -> sign == ';').count());
        return film;
    }

    static int load(FilmSchedule film, String text) {
        feedText(film, text);
        return film.load(text.length());
    }

    static int feedText(FilmSchedule film, String text) {
        byte[] signs = text.getBytes(StandardCharsets.ISO_8859_1);
        signs = Arrays.copyOf(signs, (signs.length + 19) / 20 * 20);
        int answer = 0;
        for (int at = 0; at < signs.length; at += 20) {
            answer = film.feed(four(signs, at), four(signs, at + 4), four(signs, at + 8), four(signs, at + 12),
                four(signs, at + 16));
        }
        return answer;
    }

    static int letters(String name) {
        int letters = 0;
        for (int place = 0; place < 6; place++) {
            letters = letters * 32 + (place < name.length() ? name.charAt(place) - 96 : 0);
        }
        return letters;
    }

    static void end() {
        System.out.println(wrong + " of " + answers + " answers are not as due");
        if (wrong != 0) {
            System.exit(1);
        }
    }

    private static int four(byte[] signs, int at) {
        return (signs[at] & 255) << 24 | (signs[at + 1] & 255) << 16 | (signs[at + 2] & 255) << 8 | signs[at + 3] & 255;
    }
}
