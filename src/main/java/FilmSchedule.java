import java.util.Arrays;

/** A planner for shooting a film. README.md tells how to use it. */
public final class FilmSchedule {
    public static final int CAPACITY = 0, MOVE = 1, HOLD = 2, DROP = 3;
    public static final int OFF = 0, WORK = 1, HOLDING = 2, DROPPED = 3;
    public static final int NOT_FOUND = -1;
    public static final int BAD_VALUE = -2;
    public static final int FULL = -3;
    public static final int TOO_LARGE = -4;
    public static final int IMPOSSIBLE = -5;
    public static final int SYNTAX_ERROR = -11, RANGE_ERROR = -12, NAME_ERROR = -13, DUPLICATE_ERROR = -14, ORDER_ERROR = -15, STATE_ERROR = -16, COUNT_ERROR = -17;

    private static final int MOST_LOCATIONS = 4, MOST_ACTORS = 6, MOST_SCENES = 14;
    private static final int MOST_PAY = 9999, MOST_LENGTH = 60;
    private static final int DAYS = 12;
    private static final int EVERY_DAY = 4095;
    private static final int MOST_BYTES = 900, BYTES_OF_A_FEED = 20;
    // One value for both, so that what is not there can be answered as it is held.
    private static final int NONE = NOT_FOUND;

    private static final int SETTINGS = 4;
    private static final int[] INITIAL_SETTINGS = {24, 100, 50, 4};
    private static final int[] LEAST_SETTINGS = {1, 0, 0, 1};
    private static final int[] MOST_SETTINGS = {99, 9999, 100, 12};

    private final byte[] buffer;
    private int bytes;
    private int errorAt;
    private final Production production;
    private final DayTable table;
    private final DayTable trial;
    private final Loader loader;
    private final History history;
    private final RainRun rainRun;
    private final OrderSearch search;

    public FilmSchedule() {
        buffer = new byte[MOST_BYTES];
        errorAt = NOT_FOUND;
        production = new Production();
        table = new DayTable(production);
        trial = new DayTable(production);
        loader = new Loader(buffer);
        history = new History();
        rainRun = new RainRun(table);
        search = new OrderSearch(production, table);
        refresh();
    }

    public int feed(int a, int b, int c, int d, int e) {
        if (bytes + BYTES_OF_A_FEED > MOST_BYTES) {
            return FULL;
        }
        append(a);
        append(b);
        append(c);
        append(d);
        append(e);
        return bytes;
    }

    public int load(int length) {
        if (length < 0 || length > bytes) {
            return BAD_VALUE;
        }
        bytes = 0;
        int result = loader.readText(length);
        if (result < 0) {
            errorAt = loader.errorAt;
            return result;
        }
        errorAt = NOT_FOUND;
        production.copyFrom(loader.draft);
        history.forgetAll();
        refresh();
        return result;
    }

    public int errorPosition() {
        return errorAt;
    }

    public int locationCount() {
        return production.locations;
    }

    public int actorCount() {
        return production.actors;
    }

    public int sceneCount() {
        return production.scenes;
    }

    public int undoCount() {
        return history.kept;
    }

    public int locationNamed(int letters) {
        return production.locationWithName(letters);
    }

    public int actorNamed(int letters) {
        return production.actorWithName(letters);
    }

    public int getSetting(int setting) {
        return isSetting(setting) ? production.settings[setting] : BAD_VALUE;
    }

    public int locationProperty(int location, int what) throws IndexOutOfBoundsException {
        requireIndex(location, production.locations);
        switch (what) {
            case 0: return production.rates[location];
            case 1: return production.indoors[location] ? 1 : 0;
            default: return BAD_VALUE;
        }
    }

    public int feeOf(int actor) throws IndexOutOfBoundsException {
        requireIndex(actor, production.actors);
        return production.fees[actor];
    }

    public int sceneProperty(int scene, int what) throws IndexOutOfBoundsException {
        requireIndex(scene, production.scenes);
        switch (what) {
            case 0: return production.sceneLocations[scene];
            case 1: return production.sceneLengths[scene];
            case 2: return production.sceneNights[scene] ? 1 : 0;
            case 3: return production.sceneCasts[scene];
            default: return BAD_VALUE;
        }
    }

    public int dayOf(int scene) throws IndexOutOfBoundsException {
        requireIndex(scene, production.scenes);
        return production.sceneDays[scene];
    }

    public int scenesOn(int day) throws IndexOutOfBoundsException {
        requireIndex(day, DAYS);
        return table.scenes[day];
    }

    public int locationOn(int day) throws IndexOutOfBoundsException {
        requireIndex(day, DAYS);
        return table.locations[day];
    }

    public boolean isNight(int day) throws IndexOutOfBoundsException {
        requireIndex(day, DAYS);
        return table.nights[day];
    }

    public int lengthOn(int day) throws IndexOutOfBoundsException {
        requireIndex(day, DAYS);
        return table.lengths[day];
    }

    public int castOn(int day) throws IndexOutOfBoundsException {
        requireIndex(day, DAYS);
        return table.casts[day];
    }

    public int span() {
        return table.daysUpToLast();
    }

    public int statusOf(int actor, int day) throws IndexOutOfBoundsException {
        requireIndex(actor, production.actors);
        requireIndex(day, DAYS);
        int work = table.workOf(actor);
        int drop = production.settings[DROP];
        if (has(work, day)) {
            return WORK;
        }
        if (has(WorkDays.dropped(work, drop), day)) {
            return DROPPED;
        }
        return has(WorkDays.held(work, drop), day) ? HOLDING : OFF;
    }

    public int firstDay(int actor) throws IndexOutOfBoundsException {
        requireIndex(actor, production.actors);
        return WorkDays.first(table.workOf(actor));
    }

    public int lastDay(int actor) throws IndexOutOfBoundsException {
        requireIndex(actor, production.actors);
        return WorkDays.last(table.workOf(actor));
    }

    public int daysWith(int actor, int status) throws IndexOutOfBoundsException {
        requireIndex(actor, production.actors);
        int work = table.workOf(actor);
        int drop = production.settings[DROP];
        switch (status) {
            case OFF: return DAYS - Integer.bitCount(WorkDays.firstToLast(work));
            case WORK: return Integer.bitCount(work);
            case HOLDING: return Integer.bitCount(WorkDays.held(work, drop));
            case DROPPED: return Integer.bitCount(WorkDays.dropped(work, drop));
            default: return BAD_VALUE;
        }
    }

    public int actorCost(int actor) throws IndexOutOfBoundsException {
        requireIndex(actor, production.actors);
        return table.payOf(actor);
    }

    public int moves() {
        return table.countMoves();
    }

    public int cost() {
        return table.totalCost();
    }

    public int holdingCost() {
        int sum = 0;
        for (int actor = 0; actor < production.actors; actor++) {
            sum += table.holdingPayOf(actor);
        }
        return sum;
    }

    public int reasonFor(int scene, int day) throws IndexOutOfBoundsException {
        requireIndex(scene, production.scenes);
        requireIndex(day, DAYS);
        return trial.moveScene(scene, day);
    }

    public int daysFor(int scene) throws IndexOutOfBoundsException {
        requireIndex(scene, production.scenes);
        int days = 0;
        for (int day = 0; day < DAYS; day++) {
            if (trial.moveScene(scene, day) == 0) {
                days |= 1 << day;
            }
        }
        return days;
    }

    public int costWith(int scene, int day) throws IndexOutOfBoundsException {
        requireIndex(scene, production.scenes);
        requireIndex(day, DAYS);
        return trial.moveScene(scene, day) == 0 ? trial.totalCost() : IMPOSSIBLE;
    }

    public int bestDay(int scene) throws IndexOutOfBoundsException {
        requireIndex(scene, production.scenes);
        int best = NOT_FOUND;
        int least = 0;
        for (int day = 0; day < DAYS; day++) {
            if (trial.moveScene(scene, day) == 0) {
                int sum = trial.totalCost();
                if (best == NOT_FOUND || sum < least) {
                    best = day;
                    least = sum;
                }
            }
        }
        return best;
    }

    public int fewestDays() {
        int sum = 0;
        for (int location = 0; location < production.locations; location++) {
            sum += fewestDaysAt(location, false) + fewestDaysAt(location, true);
        }
        return sum;
    }

    public int waitingFor(int location, boolean night) throws IndexOutOfBoundsException {
        requireIndex(location, production.locations);
        int count = 0;
        for (int scene = 0; scene < production.scenes; scene++) {
            if (production.isAt(scene, location, night) && production.sceneDays[scene] == NONE) {
                count++;
            }
        }
        return count;
    }

    public int rainDays(int rain) {
        if (!isRain(rain)) {
            return BAD_VALUE;
        }
        rainRun.shootAll(rain);
        return rainRun.calendarDays;
    }

    public int rainLost(int rain) {
        if (!isRain(rain)) {
            return BAD_VALUE;
        }
        rainRun.shootAll(rain);
        return rainRun.lostDays;
    }

    public int rainDay(int rain, int calendar) {
        if (!isRain(rain) || calendar < 0) {
            return BAD_VALUE;
        }
        rainRun.shootAll(rain);
        return rainRun.shotOn(calendar);
    }

    public int worstRain() {
        int worst = 0;
        int longest = -1;
        for (int day = 0; day < DAYS; day++) {
            rainRun.shootAll(1 << day);
            if (rainRun.calendarDays > longest) {
                worst = day;
                longest = rainRun.calendarDays;
            }
        }
        return worst;
    }

    public int bestCost() {
        return search.leastCost();
    }

    public int bestOrder(int place) {
        int result = search.leastCost();
        if (result < 0) {
            return result;
        }
        return place >= 0 && place < search.size ? search.best[place] : NOT_FOUND;
    }

    public int put(int scene, int day) {
        if (scene < 0 || scene >= production.scenes) {
            return NOT_FOUND;
        }
        if (day < 0 || day >= DAYS) {
            return BAD_VALUE;
        }
        if (trial.moveScene(scene, day) != 0) {
            return IMPOSSIBLE;
        }
        history.keep(production);
        production.sceneDays[scene] = day;
        refresh();
        return table.totalCost();
    }

    public int take(int scene) {
        if (scene < 0 || scene >= production.scenes || production.sceneDays[scene] == NONE) {
            return NOT_FOUND;
        }
        history.keep(production);
        production.sceneDays[scene] = NONE;
        refresh();
        return table.totalCost();
    }

    public int exchange(int one, int other) {
        if (one < 0 || one >= DAYS || other < 0 || other >= DAYS) {
            return BAD_VALUE;
        }
        trial.buildExchanged(one, other);
        if (trial.breaksTurnaround()) {
            return IMPOSSIBLE;
        }
        history.keep(production);
        for (int scene = 0; scene < production.scenes; scene++) {
            production.sceneDays[scene] = exchanged(production.sceneDays[scene], one, other);
        }
        refresh();
        return table.totalCost();
    }

    public int fill() {
        int count = 0;
        for (int scene = 0; scene < production.scenes; scene++) {
            int day = production.sceneDays[scene] == NONE ? lowestDayFor(scene) : NONE;
            if (day != NONE) {
                // Only a fill that schedules something may push out the oldest kept change.
                if (count == 0) {
                    history.keep(production);
                }
                production.sceneDays[scene] = day;
                count++;
            }
        }
        refresh();
        return count;
    }

    public int useBestOrder() {
        int result = search.leastCost();
        if (result < 0) {
            return result;
        }
        history.keep(production);
        for (int scene = 0; scene < production.scenes; scene++) {
            production.sceneDays[scene] = search.placeOf(production.sceneDays[scene]);
        }
        refresh();
        return table.totalCost();
    }

    public int setSetting(int setting, int value) {
        if (!isSetting(setting) || !fitsSetting(setting, value)) {
            return BAD_VALUE;
        }
        if (setting == CAPACITY && table.longestDay() > value) {
            return IMPOSSIBLE;
        }
        history.keep(production);
        int previous = production.settings[setting];
        production.settings[setting] = value;
        refresh();
        return previous;
    }

    public int undo() {
        if (history.kept == 0) {
            return NOT_FOUND;
        }
        history.giveBack(production);
        refresh();
        return history.kept;
    }

    private static void requireIndex(int index, int count) {
        if (index < 0 || index >= count) {
            throw new IndexOutOfBoundsException("there is no such index");
        }
    }

    private static boolean isSetting(int setting) {
        return setting >= 0 && setting < SETTINGS;
    }

    private static boolean fitsSetting(int setting, int value) {
        return value >= LEAST_SETTINGS[setting] && value <= MOST_SETTINGS[setting];
    }

    private static boolean isRain(int rain) {
        return rain >= 0 && rain <= EVERY_DAY;
    }

    private static boolean has(int bitSet, int bit) {
        return (bitSet >> bit & 1) != 0;
    }

    private static int exchanged(int day, int one, int other) {
        if (day == one) {
            return other;
        }
        return day == other ? one : day;
    }

    private void append(int fourBytes) {
        for (int shift = 24; shift >= 0 && bytes < MOST_BYTES; shift -= 8) {
            buffer[bytes] = (byte) (fourBytes >> shift);
            bytes++;
        }
    }

    /** Every change of the production ends here: the table and the search follow from it. */
    private void refresh() {
        table.build();
        search.forgetResult();
    }

    private int fewestDaysAt(int location, boolean night) {
        int sum = 0;
        for (int scene = 0; scene < production.scenes; scene++) {
            if (production.isAt(scene, location, night)) {
                sum += production.sceneLengths[scene];
            }
        }
        int capacity = production.settings[CAPACITY];
        return capacity > 0 ? (sum + capacity - 1) / capacity : 0;
    }

    private int lowestDayFor(int scene) {
        for (int day = 0; day < DAYS; day++) {
            if (trial.moveScene(scene, day) == 0) {
                return day;
            }
        }
        return NONE;
    }

    /** What a text describes: all that is declared, the settings, and the day of each scene. */
    private static final class Production {
        int locations;
        final int[] locationNames = new int[MOST_LOCATIONS];
        final int[] rates = new int[MOST_LOCATIONS];
        final boolean[] indoors = new boolean[MOST_LOCATIONS];
        int actors;
        final int[] actorNames = new int[MOST_ACTORS];
        final int[] fees = new int[MOST_ACTORS];
        int scenes;
        final int[] sceneLocations = new int[MOST_SCENES];
        final int[] sceneLengths = new int[MOST_SCENES];
        final boolean[] sceneNights = new boolean[MOST_SCENES];
        final int[] sceneCasts = new int[MOST_SCENES];
        final int[] sceneDays = new int[MOST_SCENES];
        final int[] settings = new int[SETTINGS];

        Production() {
            clear();
        }

        void clear() {
            locations = 0;
            actors = 0;
            scenes = 0;
            Arrays.fill(sceneDays, NONE);
            System.arraycopy(INITIAL_SETTINGS, 0, settings, 0, SETTINGS);
        }

        void copyFrom(Production other) {
            clear();
            for (int location = 0; location < other.locations; location++) {
                addLocation(other.locationNames[location], other.rates[location], other.indoors[location]);
            }
            for (int actor = 0; actor < other.actors; actor++) {
                addActor(other.actorNames[actor], other.fees[actor]);
            }
            for (int scene = 0; scene < other.scenes; scene++) {
                addScene(other.sceneLocations[scene], other.sceneLengths[scene], other.sceneNights[scene],
                    other.sceneCasts[scene]);
            }
            System.arraycopy(other.sceneDays, 0, sceneDays, 0, MOST_SCENES);
            System.arraycopy(other.settings, 0, settings, 0, SETTINGS);
        }

        void addLocation(int name, int rate, boolean inside) {
            if (locations < MOST_LOCATIONS) {
                locationNames[locations] = name;
                rates[locations] = rate;
                indoors[locations] = inside;
                locations++;
            }
        }

        void addActor(int name, int fee) {
            if (actors < MOST_ACTORS) {
                actorNames[actors] = name;
                fees[actors] = fee;
                actors++;
            }
        }

        void addScene(int location, int length, boolean night, int cast) {
            if (scenes < MOST_SCENES) {
                sceneLocations[scenes] = location;
                sceneLengths[scenes] = length;
                sceneNights[scenes] = night;
                sceneCasts[scenes] = cast;
                scenes++;
            }
        }

        int locationWithName(int name) {
            return indexOf(name, locationNames, locations);
        }

        int actorWithName(int name) {
            return indexOf(name, actorNames, actors);
        }

        boolean isAt(int scene, int location, boolean night) {
            return sceneLocations[scene] == location && sceneNights[scene] == night;
        }

        int holdingFeeOf(int actor) {
            return fees[actor] * settings[HOLD] / 100;
        }

        private static int indexOf(int name, int[] names, int count) {
            for (int index = 0; index < count; index++) {
                if (names[index] == name) {
                    return index;
                }
            }
            return NONE;
        }
    }

    /** The table of one actor, from the bit set of the days on which the actor works. */
    private static final class WorkDays {
        static int first(int work) {
            for (int day = 0; day < DAYS; day++) {
                if (has(work, day)) {
                    return day;
                }
            }
            return NONE;
        }

        static int last(int work) {
            for (int day = DAYS - 1; day >= 0; day--) {
                if (has(work, day)) {
                    return day;
                }
            }
            return NONE;
        }

        static int firstToLast(int work) {
            int days = 0;
            for (int day = 0; day < DAYS; day++) {
                boolean worksByThen = (work & between(0, day + 1)) != 0;
                boolean worksFromThen = work >> day != 0;
                if (worksByThen && worksFromThen) {
                    days |= 1 << day;
                }
            }
            return days;
        }

        static int dropped(int work, int drop) {
            int longest = drop - 1;
            int days = 0;
            int before = NONE;
            for (int day = 0; day < DAYS; day++) {
                if (has(work, day)) {
                    int gap = day - before - 1;
                    if (before != NONE && gap > longest) {
                        longest = gap;
                        days = between(before + 1, day);
                    }
                    before = day;
                }
            }
            return days;
        }

        static int held(int work, int drop) {
            return firstToLast(work) & ~work & ~dropped(work, drop);
        }

        private static int between(int from, int end) {
            return (1 << end) - (1 << from);
        }
    }

    /** What follows for each day from the days of the scenes. */
    private static final class DayTable {
        final Production production;
        final int[] scenes = new int[DAYS];
        final int[] locations = new int[DAYS];
        final boolean[] nights = new boolean[DAYS];
        final int[] lengths = new int[DAYS];
        final int[] casts = new int[DAYS];

        DayTable(Production production) {
            this.production = production;
        }

        void build() {
            buildWithout(NONE);
        }

        void buildExchanged(int one, int other) {
            clearDays();
            for (int scene = 0; scene < production.scenes; scene++) {
                addScene(scene, exchanged(production.sceneDays[scene], one, other));
            }
        }

        /** Answers the reason why the scene cannot be on the day; if it is 0, the table has it there. */
        int moveScene(int scene, int day) {
            buildWithout(scene);
            int reason = reasonAgainst(scene, day);
            if (reason == 0) {
                addScene(scene, day);
            }
            return reason;
        }

        /** The scene must not be in the table yet. */
        int reasonAgainst(int scene, int day) {
            if (!isFree(day) && locations[day] != production.sceneLocations[scene]) {
                return 1;
            }
            if (!isFree(day) && nights[day] != production.sceneNights[scene]) {
                return 2;
            }
            if (lengths[day] + production.sceneLengths[scene] > production.settings[CAPACITY]) {
                return 3;
            }
            return wouldBreakTurnaround(scene, day) ? 4 : 0;
        }

        void addScene(int scene, int day) {
            if (day >= 0 && day < DAYS) {
                scenes[day] |= 1 << scene;
                locations[day] = production.sceneLocations[scene];
                nights[day] = production.sceneNights[scene];
                lengths[day] += production.sceneLengths[scene];
                casts[day] |= production.sceneCasts[scene];
            }
        }

        boolean isFree(int day) {
            return scenes[day] == 0;
        }

        boolean isOutdoors(int day) {
            return !isFree(day) && !production.indoors[locations[day]];
        }

        /** Tells whether somebody who works on the first day may not work on the second, right behind it. */
        boolean clash(int day, int next) {
            return nights[day] && !nights[next] && (casts[day] & casts[next]) != 0;
        }

        boolean breaksTurnaround() {
            for (int day = 0; day + 1 < DAYS; day++) {
                if (clash(day, day + 1)) {
                    return true;
                }
            }
            return false;
        }

        int longestDay() {
            int longest = 0;
            for (int day = 0; day < DAYS; day++) {
                longest = Math.max(longest, lengths[day]);
            }
            return longest;
        }

        int daysUpToLast() {
            int count = DAYS;
            while (count > 0 && isFree(count - 1)) {
                count--;
            }
            return count;
        }

        int workOf(int actor) {
            int work = 0;
            for (int day = 0; day < DAYS; day++) {
                if (has(casts[day], actor)) {
                    work |= 1 << day;
                }
            }
            return work;
        }

        int holdingPayOf(int actor) {
            int held = WorkDays.held(workOf(actor), production.settings[DROP]);
            return production.holdingFeeOf(actor) * Integer.bitCount(held);
        }

        int payOf(int actor) {
            return production.fees[actor] * Integer.bitCount(workOf(actor)) + holdingPayOf(actor);
        }

        int countMoves() {
            int count = 0;
            int before = NONE;
            for (int day = 0; day < DAYS; day++) {
                if (!isFree(day)) {
                    if (before != NONE && locations[before] != locations[day]) {
                        count++;
                    }
                    before = day;
                }
            }
            return count;
        }

        int totalCost() {
            int sum = countMoves() * production.settings[MOVE];
            for (int day = 0; day < DAYS; day++) {
                if (!isFree(day)) {
                    sum += production.rates[locations[day]];
                }
            }
            for (int actor = 0; actor < production.actors; actor++) {
                sum += payOf(actor);
            }
            return sum;
        }

        private void clearDays() {
            for (int day = 0; day < DAYS; day++) {
                scenes[day] = 0;
                locations[day] = NONE;
                nights[day] = false;
                lengths[day] = 0;
                casts[day] = 0;
            }
        }

        private void buildWithout(int without) {
            clearDays();
            for (int scene = 0; scene < production.scenes; scene++) {
                if (scene != without) {
                    addScene(scene, production.sceneDays[scene]);
                }
            }
        }

        private boolean wouldBreakTurnaround(int scene, int day) {
            int cast = production.sceneCasts[scene];
            if (production.sceneNights[scene]) {
                return day + 1 < DAYS && !nights[day + 1] && (casts[day + 1] & cast) != 0;
            }
            return day > 0 && nights[day - 1] && (casts[day - 1] & cast) != 0;
        }
    }

    /** The states before the latest changes, the oldest row first. */
    private static final class History {
        private static final int MOST_KEPT = 12;
        private static final int ROW = SETTINGS + MOST_SCENES;

        int kept;
        private final int[] rows = new int[MOST_KEPT * ROW];

        void forgetAll() {
            kept = 0;
        }

        void keep(Production production) {
            if (kept >= MOST_KEPT) {
                kept = MOST_KEPT - 1;
                System.arraycopy(rows, ROW, rows, 0, kept * ROW);
            }
            System.arraycopy(production.settings, 0, rows, kept * ROW, SETTINGS);
            System.arraycopy(production.sceneDays, 0, rows, kept * ROW + SETTINGS, MOST_SCENES);
            kept++;
        }

        void giveBack(Production production) {
            if (kept > 0) {
                kept--;
                System.arraycopy(rows, kept * ROW, production.settings, 0, SETTINGS);
                System.arraycopy(rows, kept * ROW + SETTINGS, production.sceneDays, 0, MOST_SCENES);
            }
        }
    }

    /** The shooting on the calendar, with rain. */
    private static final class RainRun {
        // Each day in the queue needs at most one day of rest before it, once it rains no more.
        private static final int MOST_CALENDAR_DAYS = 3 * DAYS;

        int calendarDays;
        int lostDays;
        private final DayTable table;
        private final int[] shot = new int[MOST_CALENDAR_DAYS];
        // A bit set is enough for the queue: its days never change places.
        private int queue;
        private int tired;

        RainRun(DayTable table) {
            this.table = table;
        }

        void shootAll(int rain) {
            calendarDays = 0;
            lostDays = 0;
            tired = 0;
            queue = (1 << table.daysUpToLast()) - 1;
            while (queue != 0 && calendarDays < MOST_CALENDAR_DAYS) {
                boolean rains = calendarDays < DAYS && has(rain, calendarDays);
                int day = chooseDay(rains);
                shot[calendarDays] = day;
                tired = 0;
                if (day != NONE) {
                    queue &= ~(1 << day);
                    tired = table.nights[day] ? table.casts[day] : 0;
                }
                calendarDays++;
            }
        }

        int shotOn(int calendar) {
            return calendar >= 0 && calendar < calendarDays ? shot[calendar] : NONE;
        }

        private int chooseDay(boolean rains) {
            int first = WorkDays.first(queue);
            if (first == NONE) {
                return NONE;
            }
            if (!rains || !table.isOutdoors(first)) {
                return isRested(first) ? first : NONE;
            }
            int cover = coverSet(first);
            if (cover == NONE) {
                lostDays++;
            }
            return cover;
        }

        private int coverSet(int first) {
            for (int day = first + 1; day < DAYS; day++) {
                if (has(queue, day) && !table.isFree(day) && !table.isOutdoors(day) && isRested(day)) {
                    return day;
                }
            }
            return NONE;
        }

        private boolean isRested(int day) {
            return table.nights[day] || (table.casts[day] & tired) == 0;
        }
    }

    /** The search for the best order, in lexicographic order, so that the first of equal ones stays. */
    private static final class OrderSearch {
        private static final int MOST_DAYS = 7;

        int size;
        final int[] best = new int[MOST_DAYS];
        private final Production production;
        private final DayTable table;
        private boolean isKnown;
        private int result;
        private final int[] days = new int[MOST_DAYS];
        private final int[] order = new int[MOST_DAYS];
        private final int[] work = new int[MOST_ACTORS];
        private final int[] heldCounts = new int[1 << MOST_DAYS];

        OrderSearch(Production production, DayTable table) {
            this.production = production;
            this.table = table;
        }

        void forgetResult() {
            isKnown = false;
        }

        int leastCost() {
            if (!isKnown) {
                isKnown = true;
                result = NOT_FOUND;
                if (listDays()) {
                    prepareWork();
                    extend(0, 0, fixedCost());
                } else {
                    result = TOO_LARGE;
                }
            }
            return result;
        }

        int placeOf(int day) {
            for (int place = 0; place < size; place++) {
                if (best[place] == day) {
                    return place;
                }
            }
            return NONE;
        }

        private boolean listDays() {
            size = 0;
            for (int day = 0; day < DAYS; day++) {
                if (!table.isFree(day)) {
                    if (size >= MOST_DAYS) {
                        return false;
                    }
                    days[size] = day;
                    size++;
                }
            }
            return true;
        }

        private void prepareWork() {
            Arrays.fill(work, 0);
            for (int places = 0; places < 1 << MOST_DAYS; places++) {
                heldCounts[places] = Integer.bitCount(WorkDays.held(places, production.settings[DROP]));
            }
        }

        /** What every order costs: rates and work. */
        private int fixedCost() {
            int sum = 0;
            for (int index = 0; index < size; index++) {
                sum += production.rates[table.locations[days[index]]];
            }
            for (int actor = 0; actor < production.actors; actor++) {
                sum += production.fees[actor] * Integer.bitCount(table.workOf(actor));
            }
            return sum;
        }

        /** Goes on from an order of some days; the cost without holding is that of these days' moves and all work. */
        private void extend(int place, int used, int costWithoutHolding) {
            // No later day makes the cost of holding smaller, so an order that is not better by now never will be.
            int least = costWithoutHolding + holdingSoFar();
            if (result != NOT_FOUND && least >= result) {
                return;
            }
            if (place >= size) {
                result = least;
                System.arraycopy(order, 0, best, 0, size);
                return;
            }
            for (int index = 0; index < size; index++) {
                if (!has(used, index)) {
                    tryDay(index, place, used, costWithoutHolding);
                }
            }
        }

        private void tryDay(int index, int place, int used, int costWithoutHolding) {
            int day = days[index];
            int cost = costWithoutHolding;
            if (place > 0) {
                int before = order[place - 1];
                if (table.clash(before, day)) {
                    return;
                }
                if (table.locations[before] != table.locations[day]) {
                    cost += production.settings[MOVE];
                }
            }
            order[place] = day;
            flipWork(day, place);
            extend(place + 1, used | 1 << index, cost);
            flipWork(day, place);
        }

        private void flipWork(int day, int place) {
            for (int actor = 0; actor < production.actors; actor++) {
                if (has(table.casts[day], actor)) {
                    work[actor] ^= 1 << place;
                }
            }
        }

        private int holdingSoFar() {
            int sum = 0;
            for (int actor = 0; actor < production.actors; actor++) {
                sum += production.holdingFeeOf(actor) * heldCounts[work[actor]];
            }
            return sum;
        }
    }

    /** The tokens of a text, one at a time. */
    private static final class Tokens {
        static final int END = 0, WORD = 1, INTEGER = 2, SEMICOLON = 3, OTHER = 4;
        private static final int MOST_LETTERS = 6;
        // Far above every range of the format, so that a longer number stays out of all of them.
        private static final int LARGE = 100000;

        int kind;
        int start;
        int value;
        private final byte[] text;
        private int length;
        private int end;

        Tokens(byte[] text) {
            this.text = text;
        }

        void open(int newLength) {
            length = Math.max(0, Math.min(newLength, text.length));
            end = 0;
            advance();
        }

        void advance() {
            while (end < length && (text[end] == ' ' || text[end] == '\n')) {
                end++;
            }
            start = end;
            if (end >= length) {
                kind = END;
            } else if (isLetter(text[end])) {
                readWord();
            } else if (isDigit(text[end])) {
                readInteger();
            } else {
                kind = text[end] == ';' ? SEMICOLON : OTHER;
                end++;
            }
        }

        boolean isWord(String word) {
            if (kind != WORD || end - start != word.length()) {
                return false;
            }
            for (int index = 0; index < word.length(); index++) {
                if (text[start + index] != word.charAt(index)) {
                    return false;
                }
            }
            return true;
        }

        boolean isName() {
            boolean reserved = isWord("actor") || isWord("scene") || isWord("set") || isWord("day") || isWord("in")
                || isWord("out") || isWord("night") || isWord("move") || isWord("hold") || isWord("drop");
            return kind == WORD && end - start <= MOST_LETTERS && !reserved;
        }

        /** The name as locationNamed takes it. */
        int nameLetters() {
            int letters = 0;
            for (int index = 0; index < MOST_LETTERS; index++) {
                int letter = start + index < end ? text[start + index] - 'a' + 1 : 0;
                letters = letters << 5 | letter;
            }
            return letters;
        }

        private void readWord() {
            kind = WORD;
            while (end < length && isLetter(text[end])) {
                end++;
            }
        }

        private void readInteger() {
            kind = INTEGER;
            value = 0;
            while (end < length && isDigit(text[end])) {
                value = Math.min(LARGE, value * 10 + text[end] - '0');
                end++;
            }
        }

        private static boolean isLetter(byte sign) {
            return sign >= 'a' && sign <= 'z';
        }

        private static boolean isDigit(byte sign) {
            return sign >= '0' && sign <= '9';
        }
    }

    /** Reads a text into a draft, so that a text with an error leaves the production alone. */
    private static final class Loader {
        final Production draft = new Production();
        int errorAt;
        private final DayTable days = new DayTable(draft);
        private final Tokens tokens;
        private int error;
        private int givenSettings;
        private boolean dayGiven;

        Loader(byte[] text) {
            tokens = new Tokens(text);
        }

        /** Answers the number of statements or the code of the first error. */
        int readText(int length) {
            draft.clear();
            days.build();
            givenSettings = 0;
            dayGiven = false;
            tokens.open(length);
            int count = 0;
            while (tokens.kind != Tokens.END && count < length) {
                if (!readStatement()) {
                    return error;
                }
                count++;
            }
            return count;
        }

        private boolean readStatement() {
            if (tokens.isWord("location")) {
                return readLocation();
            }
            if (tokens.isWord("actor")) {
                return readActor();
            }
            if (tokens.isWord("scene")) {
                return readScene();
            }
            if (tokens.isWord("set")) {
                return readSetting();
            }
            return tokens.isWord("day") ? readDay() : fail(SYNTAX_ERROR);
        }

        private boolean readLocation() {
            if (draft.locations >= MOST_LOCATIONS) {
                return fail(COUNT_ERROR);
            }
            tokens.advance();
            int name = takeNewName();
            int rate = name == NONE ? NONE : takeInteger(0, MOST_PAY);
            if (rate == NONE) {
                return false;
            }
            boolean inside = tokens.isWord("in");
            if (!inside && !tokens.isWord("out")) {
                return fail(SYNTAX_ERROR);
            }
            tokens.advance();
            draft.addLocation(name, rate, inside);
            return takeSemicolon();
        }

        private boolean readActor() {
            if (draft.actors >= MOST_ACTORS) {
                return fail(COUNT_ERROR);
            }
            tokens.advance();
            int name = takeNewName();
            int fee = name == NONE ? NONE : takeInteger(0, MOST_PAY);
            if (fee == NONE) {
                return false;
            }
            draft.addActor(name, fee);
            return takeSemicolon();
        }

        private boolean readScene() {
            if (draft.scenes >= MOST_SCENES) {
                return fail(COUNT_ERROR);
            }
            tokens.advance();
            int location = takeLocation();
            int length = location == NONE ? NONE : takeInteger(1, MOST_LENGTH);
            if (length == NONE) {
                return false;
            }
            boolean night = tokens.isWord("night");
            if (night) {
                tokens.advance();
            }
            int cast = takeCast();
            if (cast == NONE) {
                return false;
            }
            draft.addScene(location, length, night, cast);
            return takeSemicolon();
        }

        private boolean readSetting() {
            if (dayGiven) {
                return fail(ORDER_ERROR);
            }
            tokens.advance();
            int setting = settingHere();
            if (!isSetting(setting)) {
                return fail(SYNTAX_ERROR);
            }
            if (has(givenSettings, setting)) {
                return fail(DUPLICATE_ERROR);
            }
            givenSettings |= 1 << setting;
            tokens.advance();
            int value = takeInteger(LEAST_SETTINGS[setting], MOST_SETTINGS[setting]);
            if (value == NONE) {
                return false;
            }
            draft.settings[setting] = value;
            return takeSemicolon();
        }

        private boolean readDay() {
            dayGiven = true;
            tokens.advance();
            int day = takeInteger(0, DAYS - 1);
            if (day == NONE || !takeSceneOf(day)) {
                return false;
            }
            // No scene can come twice, so that no day has more of them.
            for (int more = 1; more <= MOST_SCENES && tokens.kind != Tokens.SEMICOLON; more++) {
                if (!takeSceneOf(day)) {
                    return false;
                }
            }
            return takeSemicolon();
        }

        private boolean takeSceneOf(int day) {
            if (tokens.kind != Tokens.INTEGER) {
                return fail(SYNTAX_ERROR);
            }
            int scene = tokens.value;
            if (scene < 0 || scene >= draft.scenes) {
                return fail(RANGE_ERROR);
            }
            if (draft.sceneDays[scene] != NONE) {
                return fail(DUPLICATE_ERROR);
            }
            if (days.reasonAgainst(scene, day) != 0) {
                return fail(STATE_ERROR);
            }
            draft.sceneDays[scene] = day;
            days.addScene(scene, day);
            tokens.advance();
            return true;
        }

        private int takeCast() {
            int cast = 0;
            // No actor can come twice, so that no cast has more of them.
            for (int count = 0; count <= MOST_ACTORS && tokens.kind != Tokens.SEMICOLON; count++) {
                if (!tokens.isName()) {
                    return failed(SYNTAX_ERROR);
                }
                int actor = draft.actorWithName(tokens.nameLetters());
                if (actor == NONE) {
                    return failed(NAME_ERROR);
                }
                if (has(cast, actor)) {
                    return failed(DUPLICATE_ERROR);
                }
                cast |= 1 << actor;
                tokens.advance();
            }
            return cast;
        }

        private int takeNewName() {
            if (!tokens.isName()) {
                return failed(SYNTAX_ERROR);
            }
            int name = tokens.nameLetters();
            if (draft.locationWithName(name) != NONE || draft.actorWithName(name) != NONE) {
                return failed(DUPLICATE_ERROR);
            }
            tokens.advance();
            return name;
        }

        private int takeLocation() {
            if (!tokens.isName()) {
                return failed(SYNTAX_ERROR);
            }
            int location = draft.locationWithName(tokens.nameLetters());
            if (location == NONE) {
                return failed(NAME_ERROR);
            }
            tokens.advance();
            return location;
        }

        private int takeInteger(int least, int most) {
            if (tokens.kind != Tokens.INTEGER) {
                return failed(SYNTAX_ERROR);
            }
            int value = tokens.value;
            if (value < least || value > most) {
                return failed(RANGE_ERROR);
            }
            tokens.advance();
            return value;
        }

        private boolean takeSemicolon() {
            if (tokens.kind != Tokens.SEMICOLON) {
                return fail(SYNTAX_ERROR);
            }
            tokens.advance();
            return true;
        }

        private int settingHere() {
            if (tokens.isWord("capacity")) {
                return CAPACITY;
            }
            if (tokens.isWord("move")) {
                return MOVE;
            }
            if (tokens.isWord("hold")) {
                return HOLD;
            }
            return tokens.isWord("drop") ? DROP : NONE;
        }

        private boolean fail(int code) {
            error = code;
            errorAt = tokens.start;
            return false;
        }

        private int failed(int code) {
            fail(code);
            return NONE;
        }
    }
}
