import java.util.Arrays;

/** Promises 2 to 4: feed, load with the text format, errorPosition. */
public final class LoadTest {
    private static final int SYNTAX = FilmSchedule.SYNTAX_ERROR, RANGE = FilmSchedule.RANGE_ERROR,
        NAME = FilmSchedule.NAME_ERROR, DUPLICATE = FilmSchedule.DUPLICATE_ERROR, ORDER = FilmSchedule.ORDER_ERROR,
        STATE = FilmSchedule.STATE_ERROR, COUNT = FilmSchedule.COUNT_ERROR;
    private static final String CAST = "location a 1 in;location b 2 out;actor p 1;actor q 2;";

    public static void main(String[] args) {
        feed();
        feedIsFull();
        bytesOfAFeed();
        textOfAllBytes();
        loadOfNothing();
        lengthOfLoad();
        textEndsAtItsLength();
        statements();
        tokens();
        everyByteBetweenTokens();
        everyByteBeforeAWord();
        longIntegers();
        edgesReadBack();
        syntaxErrors();
        wordsWithAnotherLetter();
        namesThatAreNone();
        rangeErrors();
        nameErrors();
        duplicateErrors();
        orderErrors();
        stateErrors();
        countErrors();
        oneMoreThanAll();
        firstErrorCounts();
        errorListedFirst();
        forgetsWhatAFailedLoadGave();
        failureLeavesAllButTheBuffer();
        successReplacesAll();
        errorPosition();
        Check.end();
    }

    private static void feed() {
        FilmSchedule film = new FilmSchedule();
        Check.due("2: first feed", film.feed(0, 0, 0, 0, 0), 20);
        Check.due("2: second feed", film.feed(-1, -1, -1, -1, -1), 40);
    }

    private static void feedIsFull() {
        FilmSchedule film = new FilmSchedule();
        int spaces = 0x20202020;
        for (int feeds = 1; feeds <= 45; feeds++) {
            Check.due("2: feed " + feeds, film.feed(spaces, spaces, spaces, spaces, spaces), 20 * feeds);
        }
        Check.due("2: feed 46", film.feed(-1, -1, -1, -1, -1), FilmSchedule.FULL);
        Check.due("2: feed 47", film.feed(-1, -1, -1, -1, -1), FilmSchedule.FULL);
        Check.due("3: load(901)", film.load(901), FilmSchedule.BAD_VALUE);
        Check.due("3: load(900) of spaces", film.load(900), 0);
        Check.due("2: feed after load", film.feed(0, 0, 0, 0, 0), 20);
    }

    private static void bytesOfAFeed() {
        FilmSchedule film = new FilmSchedule();
        film.feed(0x6c6f6361, 0x74696f6e, 0x20612037, 0x3820696e, 0x3b202020);
        Check.due("2: location a 78 in;", film.load(20), 1);
        Check.due("2: rate", film.locationProperty(0, 0), 78);
        for (int place = 0; place < 20; place++) {
            int[] words = {0x20202020, 0x20202020, 0x20202020, 0x20202020, 0x20202020};
            words[place / 4] ^= 0xa0 << 24 - place % 4 * 8;
            film.feed(words[0], words[1], words[2], words[3], words[4]);
            Check.due("2: a byte 128 at " + place, film.load(20), SYNTAX);
            Check.due("4: a byte 128 at " + place, film.errorPosition(), place);
        }
    }

    /** The buffer's last byte is read; if the text ends too early, the position is its length. */
    private static void textOfAllBytes() {
        String text = "\n".repeat(890) + "actor p 1;";
        fine(text, 1);
        faultAt(899, "\n".repeat(899) + "?", SYNTAX);
        fault(" ".repeat(891) + "actor p 1", "", SYNTAX);
        fault("actor p 1" + " ".repeat(891), "", SYNTAX);
        faultAt(8, "actor p " + "9".repeat(892), RANGE);
        faultAt(0, "a".repeat(900), SYNTAX);
        FilmSchedule film = new FilmSchedule();
        Check.feedText(film, text);
        Check.due("3: load(899)", film.load(899), SYNTAX);
        Check.due("4: errorPosition()", film.errorPosition(), 899);
        Check.due("3: the buffer is empty", film.feed(0, 0, 0, 0, 0), 20);
    }

    /** A length of 0 is allowed, with an empty buffer and with another one, which is emptied. */
    private static void loadOfNothing() {
        FilmSchedule film = new FilmSchedule();
        Check.due("3: load(0) of an empty buffer", film.load(0), 0);
        Check.due("4: errorPosition()", film.errorPosition(), -1);
        Check.due("3: load(1) of an empty buffer", film.load(1), FilmSchedule.BAD_VALUE);
        Check.load(film, CAST + "scene a 1 p;day 0 0;");
        film.take(0);
        Check.feedText(film, "actor p ?");
        Check.due("3: load(0) of 20 bytes", film.load(0), 0);
        Check.due("3: load(1) of none", film.load(1), FilmSchedule.BAD_VALUE);
        Check.due("3: locationCount()", film.locationCount(), 0);
        Check.due("3: sceneCount()", film.sceneCount(), 0);
        Check.due("3: undoCount()", film.undoCount(), 0);
        Check.due("2: feed begins again", film.feed(0, 0, 0, 0, 0), 20);
    }

    private static void lengthOfLoad() {
        FilmSchedule film = new FilmSchedule();
        Check.feedText(film, "actor p 1;actor p 1;");
        Check.due("3: load(-1)", film.load(-1), FilmSchedule.BAD_VALUE);
        Check.due("3: load(21)", film.load(21), FilmSchedule.BAD_VALUE);
        Check.due("3: load(max)", film.load(Integer.MAX_VALUE), FilmSchedule.BAD_VALUE);
        Check.due("3: load(min)", film.load(Integer.MIN_VALUE), FilmSchedule.BAD_VALUE);
        Check.due("3: load(10) reads no more", film.load(10), 1);
        Check.due("3: the buffer is empty then", film.load(1), FilmSchedule.BAD_VALUE);
        Check.due("3: load(0)", film.load(0), 0);
        Check.due("3: load(0) replaces the production", film.actorCount(), 0);
    }

    /** What stands in the buffer behind the text belongs to no token. */
    private static void textEndsAtItsLength() {
        String text = CAST + "set move 123;scene a 12 night p;day 10 0;";
        for (int length = 0; length <= text.length(); length++) {
            FilmSchedule film = new FilmSchedule();
            String part = text.substring(0, length);
            boolean whole = part.isEmpty() || part.endsWith(";");
            Check.feedText(film, text);
            int got = film.load(length);
            if (whole) {
                Check.due("3: load of " + part, got, part.chars().filter(sign -> sign == ';').count());
                Check.due("4: errorPosition of " + part, film.errorPosition(), -1);
            } else {
                FilmSchedule other = new FilmSchedule();
                Check.due("3: load of " + part, got, Check.load(other, part));
                Check.due("4: errorPosition of " + part, film.errorPosition(), other.errorPosition());
            }
        }
        FilmSchedule film = new FilmSchedule();
        Check.feedText(film, "actor p 12;");
        Check.due("3: load(9)", film.load(9), SYNTAX);
        Check.due("4: an integer is cut", film.errorPosition(), 9);
        Check.feedText(film, "location a 1 inner;");
        Check.due("3: load(15)", film.load(15), SYNTAX);
        Check.due("4: a word is cut", film.errorPosition(), 15);
        Check.feedText(film, "actor p 1;");
        Check.due("3: load(9)", film.load(9), SYNTAX);
        Check.due("4: the semicolon is cut", film.errorPosition(), 9);
    }

    private static void statements() {
        fine("", 0);
        fine(" \n ", 0);
        fine("location a 0 in;", 1);
        fine("location a 9999 out;actor b 0;actor c 9999;", 3);
        fine("set capacity 1;set move 0;set hold 0;set drop 1;", 4);
        fine("set drop 12;set hold 100;set move 9999;set capacity 99;", 4);
        fine(CAST + "scene a 1;scene b 60 night;scene a 5 p;scene a 5 q p;scene b 3 night p q;", 9);
        fine(CAST + "scene a 3;scene a 4 p;scene b 5;day 0 1 0;day 11 2;", 9);
        fine(CAST + "scene a 3;scene a 4 p;day 0 1;day 0 0;", 8);
        fine(CAST + "scene a 3;day 0 0;actor r 1;scene a 4 r;location c 1 in;scene c 1;day 0 1;day 1 2;", 12);
        fine("actor p 1;set move 3;location a 1 in;set hold 3;scene a 1;set drop 3;", 6);
    }

    private static void tokens() {
        FilmSchedule film = fine("location\nabc  0007in;\n actor\n\nz99;scene abc 09night z;day 0 00;", 4);
        Check.due("3: rate", film.locationProperty(0, 0), 7);
        Check.due("3: fee", film.feeOf(0), 99);
        Check.due("3: length", film.sceneProperty(0, 1), 9);
        Check.due("3: night", film.sceneProperty(0, 2), 1);
        film = fine("set move 00000000000000000000000000000000000000000000000000000000000000000000009998;", 1);
        Check.due("3: many zeros", film.getSetting(FilmSchedule.MOVE), 9998);
    }

    /** Spaces (32) and newlines (10) may stand between tokens, and of the 254 other bytes none. */
    private static void everyByteBetweenTokens() {
        for (int sign = 0; sign < 256; sign++) {
            String before = "actor p 1";
            if (sign == ' ' || sign == '\n' || sign >= '0' && sign <= '9') {
                fine(before + (char) sign + ";", 1);
            } else {
                // Behind a semicolon the next one begins a statement.
                int shift = sign == ';' ? 1 : 0;
                faultAt(before.length() + shift, before + (char) sign + ";", SYNTAX);
            }
        }
    }

    private static void everyByteBeforeAWord() {
        for (int sign = 0; sign < 256; sign++) {
            if (sign == ' ' || sign == '\n') {
                fine((char) sign + "actor p 1;", 1);
            } else {
                faultAt(0, (char) sign + "actor p 1;", SYNTAX);
            }
            boolean letter = sign >= 'a' && sign <= 'z';
            if (letter) {
                fine("actor p" + (char) sign + " 1;", 1);
            } else if (sign == ' ' || sign == '\n' || sign >= '0' && sign <= '9') {
                fine("actor p" + (char) sign + (sign <= ' ' ? "1;" : ";"), 1);
            } else {
                fault("actor p", (char) sign + " 1;", SYNTAX);
            }
        }
    }

    /** "integers .. of any length": zeros in front do not count, and no number comes round to a small one. */
    private static void longIntegers() {
        FilmSchedule film = fine("actor p " + "0".repeat(887) + "9999;", 1);
        Check.due("13: feeOf(0)", film.feeOf(0), 9999);
        fault("actor p ", "0".repeat(885) + "10000;", RANGE);
        fine("actor p " + "0".repeat(891) + ";", 1);
        java.math.BigInteger two = java.math.BigInteger.TWO;
        for (int power : new int[] {8, 16, 31, 32, 63, 64, 65, 128, 1000}) {
            for (int more = 0; more < 3; more++) {
                String number = two.pow(power).add(java.math.BigInteger.valueOf(more)).toString();
                fault("set drop ", number + ";", RANGE);
                fault(CAST + "scene a ", number + ";", RANGE);
                fault(CAST + "scene a 1;scene a 1;scene a 1;day ", number + " 0;", RANGE);
                fault(CAST + "scene a 1;scene a 1;scene a 1;day 0 ", number + ";", RANGE);
            }
        }
    }

    /** The least and the most of each range, as they are read back. */
    private static void edgesReadBack() {
        FilmSchedule film = fine("set capacity 1;set move 0;set hold 0;set drop 1;location a 0 in;actor p 0;scene a 1;day 0 0;", 8);
        int[] least = {1, 0, 0, 1};
        int[] most = {99, 9999, 100, 12};
        for (int setting = 0; setting < 4; setting++) {
            Check.due("11: least " + setting, film.getSetting(setting), least[setting]);
        }
        Check.due("12: least rate", film.locationProperty(0, 0), 0);
        Check.due("13: least fee", film.feeOf(0), 0);
        Check.due("14: least length", film.sceneProperty(0, 1), 1);
        Check.due("14: least cast", film.sceneProperty(0, 3), 0);
        Check.due("15: least day", film.dayOf(0), 0);
        film = fine("set capacity 99;set move 9999;set hold 100;set drop 12;location a 9999 out;actor p 9999;"
            + "scene a 60 night p;day 11 0;", 8);
        for (int setting = 0; setting < 4; setting++) {
            Check.due("11: most " + setting, film.getSetting(setting), most[setting]);
        }
        Check.due("12: most rate", film.locationProperty(0, 0), 9999);
        Check.due("13: most fee", film.feeOf(0), 9999);
        Check.due("14: most length", film.sceneProperty(0, 1), 60);
        Check.due("15: most day", film.dayOf(0), 11);
    }

    private static void syntaxErrors() {
        fault("", ";", SYNTAX);
        fault("", "x;", SYNTAX);
        fault("", "7;", SYNTAX);
        fault("", "night;", SYNTAX);
        fault("", "capacity 3;", SYNTAX);
        fault("", "locations a 1 in;", SYNTAX);
        fault("", "Location a 1 in;", SYNTAX);
        fault("", "\tactor p 1;", SYNTAX);
        fault("", "\ractor p 1;", SYNTAX);
        fault("location", "", SYNTAX);
        fault("location a", "", SYNTAX);
        fault("location a 1", "", SYNTAX);
        fault("location a 1 in", "", SYNTAX);
        fault("location a 1 in \n ", "", SYNTAX);
        fault("location a 1 in;", ";", SYNTAX);
        fault("location ", "1 in;", SYNTAX);
        fault("location ", ";", SYNTAX);
        fault("location ", "A 1 in;", SYNTAX);
        fault("location a", "B 1 in;", SYNTAX);
        fault("location a ", "in;", SYNTAX);
        fault("location a ", "-1 in;", SYNTAX);
        fault("location a 1 ", ";", SYNTAX);
        fault("location a 1 ", "x;", SYNTAX);
        fault("location a 1 ", "inn;", SYNTAX);
        fault("location a 1 ", "night;", SYNTAX);
        fault("location a 1 in ", "out;", SYNTAX);
        fault("location a 1 in", ",", SYNTAX);
        fault("actor ", "1;", SYNTAX);
        fault("actor p", ";", SYNTAX);
        fault("actor p ", "q;", SYNTAX);
        fault("actor p 1 ", "2;", SYNTAX);
        fault("actor p 1 ", "in;", SYNTAX);
        fault(CAST + "scene ", ";", SYNTAX);
        fault(CAST + "scene ", "4 a;", SYNTAX);
        fault(CAST + "scene ", "night;", SYNTAX);
        fault(CAST + "scene ", "abcdefg 1;", SYNTAX);
        fault(CAST + "scene a ", "p;", SYNTAX);
        fault(CAST + "scene a ", ";", SYNTAX);
        fault(CAST + "scene a ", "night 4;", SYNTAX);
        fault(CAST + "scene a 4 ", "4;", SYNTAX);
        fault(CAST + "scene a 4 night ", "night;", SYNTAX);
        fault(CAST + "scene a 4 p ", "night;", SYNTAX);
        fault(CAST + "scene a 4 p ", "day 0 0;", SYNTAX);
        fault(CAST + "scene a 4 p ", "abcdefg;", SYNTAX);
        fault(CAST + "scene a 4 p q", "", SYNTAX);
        fault("set ", "capacit 3;", SYNTAX);
        fault("set ", "p 3;", SYNTAX);
        fault("set ", "3;", SYNTAX);
        fault("set ", ";", SYNTAX);
        fault("set", "", SYNTAX);
        fault("set move ", "x;", SYNTAX);
        fault("set move ", ";", SYNTAX);
        fault("set move 3 ", "3;", SYNTAX);
        fault(CAST + "scene a 1;day ", ";", SYNTAX);
        fault(CAST + "scene a 1;day ", "a 0;", SYNTAX);
        fault(CAST + "scene a 1;day 0", ";", SYNTAX);
        fault(CAST + "scene a 1;day 0 ", "a;", SYNTAX);
        fault(CAST + "scene a 1;day 0 0 ", "a;", SYNTAX);
        fault(CAST + "scene a 1;day 0 0", "", SYNTAX);
        fault("actor p 1", "" + (char) 0, SYNTAX);
        fault("actor p 1", "" + (char) 233, SYNTAX);
        fault("actor p 1", "`", SYNTAX);
        fault("actor p 1", "{", SYNTAX);
        fault("actor p 1", "/", SYNTAX);
        fault("actor p 1", ":", SYNTAX);
    }

    private static void wordsWithAnotherLetter() {
        String[][] words = {{"", "location", " a 1 in;"}, {"", "actor", " p 1;"}, {CAST, "scene", " a 1;"},
            {"", "set", " move 1;"}, {CAST + "scene a 1;", "day", " 0 0;"}, {"location a 1 ", "in", ";"},
            {"location a 1 ", "out", ";"}, {"set ", "capacity", " 5;"}, {"set ", "move", " 5;"}, {"set ", "hold", " 5;"},
            {"set ", "drop", " 5;"}};
        for (String[] word : words) {
            fine(word[0] + word[1] + word[2], (int) (word[0] + ";").chars().filter(sign -> sign == ';').count());
            for (int place = 0; place < word[1].length(); place++) {
                char other = word[1].charAt(place) == 'z' ? 'y' : 'z';
                String wrong = word[1].substring(0, place) + other + word[1].substring(place + 1);
                fault(word[0], wrong + word[2], SYNTAX);
            }
        }
        for (String name : new String[] {"zight", "nighz", "zctor", "actoz", "zcene", "zet", "zay", "zn", "zut", "zove",
            "zold", "zrop"}) {
            fine("actor " + name + " 1;location a 1 in;scene a 1 " + name + ";", 3);
        }
    }

    private static void namesThatAreNone() {
        String[] words = {"location", "actor", "scene", "set", "day", "in", "out", "night", "capacity", "move", "hold",
            "drop", "abcdefg"};
        for (String word : words) {
            fault("location ", word + " 1 in;", SYNTAX);
            fault("actor ", word + " 1;", SYNTAX);
            fault("location a 1 in;scene ", word + " 1;", SYNTAX);
            if (!word.equals("night")) {
                fault("location a 1 in;scene a 1 ", word + ";", SYNTAX);
            }
        }
        String[] names = {"a", "z", "abcdef", "zzzzzz", "ina", "i", "ou", "nights", "days", "sets", "moves", "drops",
            "actors", "scenes", "holds"};
        for (String name : names) {
            FilmSchedule film = fine("location " + name + " 1 in;scene " + name + " 1;", 2);
            Check.due("9: locationNamed " + name, film.locationNamed(Check.letters(name)), 0);
        }
    }

    private static void rangeErrors() {
        String[] large = {"10000", "010000", "99999", "65536", "4294967296", "4294967297", "18446744073709551617",
            "99999999999999999999999999999999999999999999999999999999"};
        for (String number : large) {
            fault("location a ", number + " in;", RANGE);
            fault("actor p ", number + ";", RANGE);
            fault(CAST + "scene a ", number + ";", RANGE);
            fault("set move ", number + ";", RANGE);
            fault("set capacity ", number + ";", RANGE);
            fault("set hold ", number + ";", RANGE);
            fault("set drop ", number + ";", RANGE);
            fault(CAST + "scene a 1;day ", number + " 0;", RANGE);
            fault(CAST + "scene a 1;day 0 ", number + ";", RANGE);
        }
        fault(CAST + "scene a ", "0;", RANGE);
        fault(CAST + "scene a ", "61;", RANGE);
        fault("set capacity ", "0;", RANGE);
        fault("set capacity ", "100;", RANGE);
        fault("set hold ", "101;", RANGE);
        fault("set drop ", "0;", RANGE);
        fault("set drop ", "13;", RANGE);
        fault(CAST + "scene a 1;day ", "12 0;", RANGE);
        fault(CAST + "scene a 1;day 0 ", "1;", RANGE);
        fault(CAST + "scene a 1;day 0 0 ", "1;", RANGE);
        fault("day 0 ", "0;", RANGE);
    }

    private static void nameErrors() {
        fault(CAST + "scene ", "c 1;", NAME);
        fault(CAST + "scene ", "p 1;", NAME);
        fault(CAST + "scene a 1 ", "r;", NAME);
        fault(CAST + "scene a 1 p ", "b;", NAME);
        fault(CAST + "scene a 1 night ", "a;", NAME);
        fault("location ab 1 in;scene ", "a 1;", NAME);
        fault("scene ", "a 1;location a 1 in;", NAME);
    }

    private static void duplicateErrors() {
        fault("location a 1 in;location ", "a 1 in;", DUPLICATE);
        fault("location a 1 in;actor ", "a 1;", DUPLICATE);
        fault("actor a 1;location ", "a 1 in;", DUPLICATE);
        fault("actor a 1;actor ", "a 1;", DUPLICATE);
        fault(CAST + "scene a 1 p ", "p;", DUPLICATE);
        fault(CAST + "scene a 1 p q ", "p;", DUPLICATE);
        fault("set capacity 1;set ", "capacity 1;", DUPLICATE);
        fault("set move 1;set ", "move 1;", DUPLICATE);
        fault("set hold 1;set drop 3;set ", "hold 1;", DUPLICATE);
        fault("set drop 1;actor p 1;set ", "drop x;", DUPLICATE);
        fault(CAST + "scene a 1;day 0 0 ", "0;", DUPLICATE);
        fault(CAST + "scene a 1;day 0 0;day 1 ", "0;", DUPLICATE);
        fault(CAST + "scene a 1;scene b 1;day 0 0;day 1 1;day 0 ", "1;", DUPLICATE);
    }

    private static void orderErrors() {
        fault(CAST + "scene a 1;day 0 0;", "set move 1;", ORDER);
        fault(CAST + "scene a 1;day 0 0;actor r 1;", "set capacity 1;", ORDER);
        fault("set move 1;" + CAST + "scene a 1;day 0 0;", "set move 1;", ORDER);
        fault(CAST + "scene a 1;day 0 0;", "set x", ORDER);
    }

    private static void stateErrors() {
        String scenes = "set capacity 10;" + CAST + "scene a 4 p;scene b 4 p;scene a 4 night p;scene a 6;scene a 7 q;"
            + "scene b 11;scene b 2 p q;";
        fault(scenes + "day 0 0 ", "1;", STATE);
        fault(scenes + "day 0 0;day 0 ", "2;", STATE);
        fault(scenes + "day 0 0 3;day 1 ", "5;", STATE);
        fault(scenes + "day 0 0 ", "4;", STATE);
        fault(scenes + "day 0 2;day 1 ", "0;", STATE);
        fault(scenes + "day 1 0;day 0 ", "2;", STATE);
        fault(scenes + "day 0 2;day 2 0;day 1 ", "6;", STATE);
        fine(scenes + "day 0 2;day 1 4;", 14);
        fine(scenes + "day 0 2;day 2 0;day 11 1 6;", 15);
        fine(scenes + "day 0 0;day 1 2;", 14);
        fine(scenes + "day 11 2;day 0 0 3;", 14);
    }

    private static void countErrors() {
        String four = "location a 1 in;location b 1 in;location c 1 in;location d 1 in;";
        fine(four, 4);
        fault(four, "location e 1 in;", COUNT);
        fault(four, "location", COUNT);
        String six = "actor p 1;actor q 1;actor r 1;actor s 1;actor t 1;actor u 1;";
        fine(four + six, 10);
        fault(six, "actor v 1;", COUNT);
        fault(six + four, "actor ;", COUNT);
        String scenes = "";
        for (int scene = 0; scene < 14; scene++) {
            scenes += "scene d 3 p q r s t u;";
        }
        fine(four + six + scenes, 24);
        fault(four + six + scenes, "scene d 3;", COUNT);
        fine(four + six + scenes + "day 0 0 1 2 3 4 5 6 7;day 1 8 9 10 11 12 13;", 26);
        fault(four + six + scenes + "day 0 0 1 2 3 4 5 6 7 ", "8;", STATE);
    }

    private static void oneMoreThanAll() {
        String six = "location a 1 in;actor p 1;actor q 1;actor r 1;actor s 1;actor t 1;actor u 1;";
        fault(six + "scene a 1 p q r s t u ", "p;", DUPLICATE);
        fault(six + "scene a 1 p q r s t u ", "x;", NAME);
        fault(six + "scene a 1 night u t s r q p ", "night;", SYNTAX);
        String scenes = "";
        for (int scene = 0; scene < 14; scene++) {
            scenes += "scene a 1;";
        }
        String all = six + scenes + "day 0 0 1 2 3 4 5 6 7 8 9 10 11 12 13";
        fine(all + ";", 22);
        fault(all + " ", "7;", DUPLICATE);
        fault(all + " ", "14;", RANGE);
        fault(all + " ", "p;", SYNTAX);
        fault(all, "", SYNTAX);
    }

    private static void firstErrorCounts() {
        fault("location a ", "10000 x", RANGE);
        fault("location a 1 in;actor ", "a x", DUPLICATE);
        fault("actor p ", "10000;actor p 1;", RANGE);
        fault(CAST + "scene ", "x 0 x x;", NAME);
        fault(CAST + "scene a ", "0 x", RANGE);
        fault("actor p 1;set ", "p 1;?", SYNTAX);
        fault("actor p 1 ", "?;x", SYNTAX);
    }

    /** "If several errors apply to one token, the one listed first is reported." */
    private static void errorListedFirst() {
        String four = "location a 1 in;location b 1 in;location c 1 in;location d 1 in;";
        String six = "actor p 1;actor q 1;actor r 1;actor s 1;actor t 1;actor u 1;";
        String scene = CAST + "scene a 1 p;scene b 1 p;scene a 1;";
        // SYNTAX_ERROR before all others: the token is not allowed here, whatever else is wrong with it.
        fault(scene + "day 0 0 ", "set move 1;", SYNTAX);
        fault(scene + "day 0 0;scene a 1 ", "set move 1;", SYNTAX);
        fault(four + "actor ", "location;", SYNTAX);
        fault(six + "location ", "actor 1 in;", SYNTAX);
        fault("location a 1 in;" + "scene a 1;".repeat(13) + "scene a 1 ", "scene a 1;", SYNTAX);
        fault(CAST + "scene a 1 ", "99999;", SYNTAX);
        fault("set move 1;set ", "99999;", SYNTAX);
        fault("actor p 1 ", "99999;", SYNTAX);
        // RANGE_ERROR before DUPLICATE_ERROR and STATE_ERROR: a scene that is not declared is in no state.
        fault(scene + "day 0 0 ", "3;", RANGE);
        // NAME_ERROR before DUPLICATE_ERROR: the name of a location is no actor's, the first time already.
        fault(CAST + "scene a 1 ", "b b;", NAME);
        // DUPLICATE_ERROR before STATE_ERROR: scene 1 is scheduled and has another location than day 0.
        fault(scene + "day 3 1;day 0 0 ", "1;", DUPLICATE);
        fault("set capacity 1;" + CAST + "scene a 1;day 0 0 ", "0;", DUPLICATE);
        // DUPLICATE_ERROR at a setting's name comes before a fault of its value, which stands behind it.
        fault("set move 1;set ", "move 10000;", DUPLICATE);
        // ORDER_ERROR at the word set comes before the name behind it, that was already given.
        fault("set move 1;" + scene + "day 0 0;", "set move 1;", ORDER);
        // COUNT_ERROR at the word comes before the name behind it, that is declared already.
        fault(four, "location a 1 in;", COUNT);
        fault(six, "actor p 1;", COUNT);
    }

    /** What a text with an error declared, gave or scheduled is no duplicate for the next one. */
    private static void forgetsWhatAFailedLoadGave() {
        String text = "set capacity 5;set move 1;set hold 2;set drop 3;" + CAST + "scene a 1 p;day 0 0;";
        FilmSchedule film = new FilmSchedule();
        for (int time = 0; time < 3; time++) {
            Check.due("3: with an error", Check.load(film, text + "?"), SYNTAX);
            Check.due("3: nothing is declared", film.sceneCount(), 0);
            Check.due("3: nothing is given", film.getSetting(FilmSchedule.CAPACITY), 24);
        }
        Check.due("3: without", Check.load(film, text), 10);
        Check.due("3: again", Check.load(film, text), 10);
        Check.due("3: no settings", Check.load(film, CAST), 4);
        Check.due("3: capacity is as at first", film.getSetting(FilmSchedule.CAPACITY), 24);
        Check.due("3: set is allowed again", Check.load(film, text), 10);
    }

    private static void failureLeavesAllButTheBuffer() {
        String text = "set capacity 30;" + CAST + "scene a 4 p;scene b 5 q;day 3 0;";
        FilmSchedule film = Check.film(text);
        film.put(1, 4);
        int cost = film.cost();
        Check.due("3: a text with an error", Check.load(film, "set capacity 9;actor x 7;location y 8 in;scene y 9 x;day 7 0;?"),
            SYNTAX);
        Check.due("3: the buffer is empty", film.load(1), FilmSchedule.BAD_VALUE);
        Check.due("3: capacity stays", film.getSetting(FilmSchedule.CAPACITY), 30);
        Check.due("3: locations stay", film.locationCount(), 2);
        Check.due("3: names stay", film.locationNamed(Check.letters("b")), 1);
        Check.due("3: names stay", film.actorNamed(Check.letters("x")), FilmSchedule.NOT_FOUND);
        Check.due("3: actors stay", film.actorCount(), 2);
        Check.due("3: scenes stay", film.sceneCount(), 2);
        Check.due("3: days stay", film.dayOf(0), 3);
        Check.due("3: cost stays", film.cost(), cost);
        Check.due("3: changes stay", film.undo(), 0);
        Check.due("3: a change is undone", film.dayOf(1), FilmSchedule.NOT_FOUND);
    }

    private static void successReplacesAll() {
        FilmSchedule film = Check.film("set capacity 30;set move 1;set hold 2;set drop 3;" + CAST
            + "actor r 5;scene a 4 p;scene b 5 q;scene a 1;day 3 0;day 5 1;");
        film.setSetting(FilmSchedule.MOVE, 8);
        film.take(0);
        Check.due("3: second load", Check.load(film, "actor x 7;location y 8 out;scene y 9 night x;"), 3);
        Check.due("3: undoCount", film.undoCount(), 0);
        Check.due("3: undo", film.undo(), FilmSchedule.NOT_FOUND);
        Check.due("3: capacity", film.getSetting(FilmSchedule.CAPACITY), 24);
        Check.due("3: move", film.getSetting(FilmSchedule.MOVE), 100);
        Check.due("3: hold", film.getSetting(FilmSchedule.HOLD), 50);
        Check.due("3: drop", film.getSetting(FilmSchedule.DROP), 4);
        Check.due("3: locations", film.locationCount(), 1);
        Check.due("3: actors", film.actorCount(), 1);
        Check.due("3: scenes", film.sceneCount(), 1);
        Check.due("3: the day of the scene", film.dayOf(0), FilmSchedule.NOT_FOUND);
        Check.due("3: span", film.span(), 0);
        Check.due("3: an old name", film.locationNamed(Check.letters("a")), FilmSchedule.NOT_FOUND);
        Check.due("3: a new name", film.locationNamed(Check.letters("y")), 0);
        Check.due("3: outdoors", film.locationProperty(0, 1), 0);
    }

    private static void errorPosition() {
        FilmSchedule film = new FilmSchedule();
        Check.due("4: none yet", film.errorPosition(), FilmSchedule.NOT_FOUND);
        film.load(5);
        Check.due("4: BAD_VALUE does not count", film.errorPosition(), FilmSchedule.NOT_FOUND);
        Check.load(film, "actor p x;");
        Check.due("4: an error", film.errorPosition(), 8);
        film.load(5);
        Check.due("4: BAD_VALUE leaves it", film.errorPosition(), 8);
        Check.load(film, "?");
        Check.due("4: the latest", film.errorPosition(), 0);
        film.load(0);
        Check.due("4: no error", film.errorPosition(), FilmSchedule.NOT_FOUND);
    }

    private static FilmSchedule fine(String text, int answer) {
        FilmSchedule film = new FilmSchedule();
        Check.due("3: load of " + text, Check.load(film, text), answer);
        Check.due("4: errorPosition of " + text, film.errorPosition(), FilmSchedule.NOT_FOUND);
        return film;
    }

    private static void faultAt(int at, String text, int code) {
        FilmSchedule film = new FilmSchedule();
        Check.due("3: load of " + text, Check.load(film, text), code);
        Check.due("4: errorPosition of " + text, film.errorPosition(), at);
    }

    /** The error is at the first sign of the second part. */
    private static void fault(String before, String behind, int code) {
        int[] rests = code == SYNTAX && behind.isEmpty() ? new int[] {0} : new int[] {0, 1};
        for (int rest : rests) {
            FilmSchedule film = new FilmSchedule();
            char[] more = new char[rest];
            Arrays.fill(more, '?');
            String text = before + behind + new String(more);
            Check.due("3: load of " + text, Check.load(film, text), code);
            Check.due("4: errorPosition of " + text, film.errorPosition(), before.length());
        }
    }
}
