import java.util.ArrayDeque;
import java.util.ArrayList;
import java.util.Arrays;
import java.util.Collections;
import java.util.Deque;
import java.util.HashSet;
import java.util.List;
import java.util.Objects;
import java.util.Random;
import java.util.Set;
import java.util.TreeSet;
import java.util.regex.Matcher;
import java.util.regex.Pattern;

/**
 * All promises on runs of calls that a seeded source makes: each answer against that of a model which is written
 * after the words of the document, with lists and whole searches, and shares nothing with the class.
 */
public final class ModelTest {
    private static final int RUNS = 600;

    public static void main(String[] args) {
        for (int run = 0; run < RUNS; run++) {
            new Run(run).play();
        }
        Check.end();
    }

    /** One object and its model through up to 512 calls. */
    private static final class Run {
        private final Random source;
        private final int number;
        private final FilmSchedule film = new FilmSchedule();
        private Model model = new Model();
        private int calls = 0;

        Run(int number) {
            this.number = number;
            this.source = new Random(number);
        }

        void play() {
            loadText(new Texts(source).text(0));
            // A load may take 46 calls more; behind the 512th, all answers are free.
            while (calls < 460) {
                int kind = source.nextInt(120);
                if (kind == 0) {
                    loadText(new Texts(source).text(source.nextInt(3)));
                } else if (kind < 40) {
                    change();
                } else {
                    ask();
                }
            }
        }

        private void loadText(String text) {
            Parser parser = new Parser(text);
            int want = parser.read();
            due("load of " + text, Check.load(film, text), want);
            due("errorPosition of " + text, film.errorPosition(), want < 0 ? parser.errorAt : -1);
            calls += 2 + (text.length() + 19) / 20;
            if (want >= 0) {
                model = parser.model;
            }
        }

        private void change() {
            int a = pick(Math.max(1, model.scenes.size()));
            int b = pick(12);
            calls += 2;
            switch (source.nextInt(16)) {
                case 0: due("take " + a, film.take(a), model.take(a)); break;
                case 1: case 2: exchange(b, pick(12)); break;
                case 3: if (source.nextInt(3) == 0) { due("fill", film.fill(), model.fill()); } break;
                case 4: if (source.nextInt(4) == 0) { due("useBestOrder", film.useBestOrder(), model.useBestOrder()); } break;
                case 5: case 6: setting(); break;
                case 7: due("undo", film.undo(), model.undo()); break;
                default: due("put " + a + ", " + b, film.put(a, b), model.put(a, b)); break;
            }
            due("undoCount", film.undoCount(), model.changes.size());
        }

        private void exchange(int one, int other) {
            due("exchange " + one + ", " + other, film.exchange(one, other), model.exchange(one, other));
        }

        private void setting() {
            int setting = source.nextInt(6) - 1;
            int[] values = {source.nextInt(source.nextInt(3) == 0 ? 101 : 20), source.nextInt(source.nextBoolean() ? 10001 : 200),
                source.nextInt(103) - 1, source.nextInt(source.nextBoolean() ? 14 : 5)};
            int value = setting >= 0 && setting < 4 ? values[setting] : 5;
            due("setSetting " + setting + ", " + value, film.setSetting(setting, value), model.setSetting(setting, value));
        }

        /** An index that is mostly right, at times just wrong, at times far off. */
        private int pick(int count) {
            int chance = source.nextInt(40);
            if (chance == 0) {
                return source.nextInt();
            }
            return chance == 1 ? source.nextBoolean() ? -1 : count : source.nextInt(count);
        }

        private void ask() {
            calls++;
            int s = pick(Math.max(1, model.scenes.size()));
            int a = pick(Math.max(1, model.actors.size()));
            int l = pick(Math.max(1, model.locations.size()));
            int d = pick(12);
            int what = source.nextInt(6) - 1;
            int rain = source.nextInt(20) == 0 ? source.nextInt() : source.nextInt(4096) & source.nextInt(4096);
            switch (source.nextInt(32)) {
                case 0: due("counts", film.locationCount() * 10000 + film.actorCount() * 100 + film.sceneCount(),
                    model.locations.size() * 10000 + model.actors.size() * 100 + model.scenes.size()); calls += 2; break;
                case 1: names(); break;
                case 2: due("getSetting " + what, film.getSetting(what), what >= 0 && what < 4 ? model.settings[what] : -2); break;
                case 3: ask("locationProperty " + l + ", " + what, () -> film.locationProperty(l, what), () -> model.locationProperty(l, what)); break;
                case 4: ask("feeOf " + a, () -> film.feeOf(a), () -> model.actor(a).fee); break;
                case 5: ask("sceneProperty " + s + ", " + what, () -> film.sceneProperty(s, what), () -> model.sceneProperty(s, what)); break;
                case 6: ask("dayOf " + s, () -> film.dayOf(s), () -> model.scene(s).day); break;
                case 7: ask("scenesOn " + d, () -> film.scenesOn(d), () -> model.scenesOn(d)); break;
                case 8: ask("locationOn " + d, () -> film.locationOn(d), () -> model.locationOn(Model.day(d))); break;
                case 9: ask("isNight " + d, () -> film.isNight(d) ? 1 : 0, () -> model.isNight(Model.day(d)) ? 1 : 0); break;
                case 10: ask("lengthOn " + d, () -> film.lengthOn(d), () -> model.lengthOn(Model.day(d))); break;
                case 11: ask("castOn " + d, () -> film.castOn(d), () -> bits(model.castOn(Model.day(d)))); break;
                case 12: due("span", film.span(), model.span()); break;
                case 13: case 14: ask("statusOf " + a + ", " + d, () -> film.statusOf(a, d), () -> model.statusOf(a, d)); break;
                case 15: ask("firstDay " + a, () -> film.firstDay(a), () -> model.firstDay(a)); break;
                case 16: ask("lastDay " + a, () -> film.lastDay(a), () -> model.lastDay(a)); break;
                case 17: ask("daysWith " + a + ", " + what, () -> film.daysWith(a, what), () -> model.daysWith(a, what)); break;
                case 18: ask("actorCost " + a, () -> film.actorCost(a), () -> model.actorCost(a)); break;
                case 19: due("moves", film.moves(), model.moves()); break;
                case 20: due("cost", film.cost(), model.cost()); break;
                case 21: due("holdingCost", film.holdingCost(), model.holdingCost()); break;
                case 22: ask("reasonFor " + s + ", " + d, () -> film.reasonFor(s, d), () -> model.reasonFor(s, d)); break;
                case 23: ask("daysFor " + s, () -> film.daysFor(s), () -> model.daysFor(s)); break;
                case 24: ask("costWith " + s + ", " + d, () -> film.costWith(s, d), () -> model.costWith(s, d)); break;
                case 25: ask("bestDay " + s, () -> film.bestDay(s), () -> model.bestDay(s)); break;
                case 26: due("fewestDays", film.fewestDays(), model.fewestDays()); break;
                case 27: ask("waitingFor " + l, () -> film.waitingFor(l, what > 0), () -> model.waitingFor(l, what > 0)); break;
                case 28: due("rainDays " + rain, film.rainDays(rain), model.rainDays(rain)); break;
                case 29: due("rainLost " + rain, film.rainLost(rain), model.rainLost(rain)); break;
                case 30: due("rainDay " + rain + ", " + d, film.rainDay(rain, d), model.rainDay(rain, d));
                    due("worstRain", film.worstRain(), model.worstRain()); calls++; break;
                default: orders(); break;
            }
        }

        private void orders() {
            if (source.nextInt(3) == 0) {
                due("bestCost", film.bestCost(), model.bestCost());
                for (int place = -1; place < 8; place++) {
                    due("bestOrder " + place, film.bestOrder(place), model.bestOrder(place));
                }
                calls += 9;
            }
        }

        private void names() {
            String name = Texts.NAMES[source.nextInt(Texts.NAMES.length)];
            int letters = Check.letters(name);
            due("locationNamed " + name, film.locationNamed(letters), model.locationNamed(name));
            due("actorNamed " + name, film.actorNamed(letters), model.actorNamed(name));
            calls++;
        }

        private interface Answer {
            int get();
        }

        private void ask(String call, Answer got, Answer want) {
            long wanted;
            try {
                wanted = want.get();
            } catch (IndexOutOfBoundsException e) {
                Check.dueIndexException("run " + number + ": " + call, () -> got.get());
                return;
            }
            due(call, got.get(), wanted);
        }

        private void due(String call, long got, long want) {
            Check.due("run " + number + ": " + call, got, want);
        }
    }

    private static int bits(Set<Integer> members) {
        return members.stream().mapToInt(member -> 1 << member).sum();
    }

    private record Location(String name, int rate, boolean inside) {
    }

    private record Actor(String name, int fee) {
    }

    private record Scene(int location, int length, boolean night, Set<Integer> cast, int day) {
        Scene on(int newDay) {
            return new Scene(location, length, night, cast, newDay);
        }
    }

    private record Change(List<Scene> scenes, int[] settings) {
    }

    /** The document's words as plain code. */
    private static final class Model {
        final List<Location> locations = new ArrayList<>();
        final List<Actor> actors = new ArrayList<>();
        List<Scene> scenes = new ArrayList<>();
        int[] settings = {24, 100, 50, 4};
        final Deque<Change> changes = new ArrayDeque<>();

        static int day(int day) {
            return Objects.checkIndex(day, 12);
        }

        Actor actor(int actor) {
            return actors.get(Objects.checkIndex(actor, actors.size()));
        }

        Scene scene(int scene) {
            return scenes.get(Objects.checkIndex(scene, scenes.size()));
        }

        int locationNamed(String name) {
            return locations.stream().map(Location::name).toList().indexOf(name);
        }

        int actorNamed(String name) {
            return actors.stream().map(Actor::name).toList().indexOf(name);
        }

        int locationProperty(int location, int what) {
            Location it = locations.get(location);
            return what == 0 ? it.rate : what == 1 ? it.inside ? 1 : 0 : -2;
        }

        int sceneProperty(int scene, int what) {
            Scene it = scene(scene);
            int[] properties = {it.location, it.length, it.night ? 1 : 0, bits(it.cast)};
            return what >= 0 && what < 4 ? properties[what] : -2;
        }

        List<Scene> on(int day) {
            return scenes.stream().filter(scene -> scene.day == day).toList();
        }

        int scenesOn(int day) {
            day(day);
            Set<Integer> found = new TreeSet<>();
            for (int scene = 0; scene < scenes.size(); scene++) {
                if (scenes.get(scene).day == day) {
                    found.add(scene);
                }
            }
            return bits(found);
        }

        int locationOn(int day) {
            return on(day).stream().mapToInt(Scene::location).findFirst().orElse(-1);
        }

        boolean isNight(int day) {
            return on(day).stream().anyMatch(Scene::night);
        }

        int lengthOn(int day) {
            return on(day).stream().mapToInt(Scene::length).sum();
        }

        Set<Integer> castOn(int day) {
            Set<Integer> cast = new TreeSet<>();
            on(day).forEach(scene -> cast.addAll(scene.cast));
            return cast;
        }

        int span() {
            return scenes.stream().mapToInt(Scene::day).max().orElse(-1) + 1;
        }

        List<Integer> busyDays() {
            return new ArrayList<>(new TreeSet<>(scenes.stream().map(Scene::day).filter(day -> day >= 0).toList()));
        }

        String signs(int actor) {
            actor(actor);
            StringBuilder signs = new StringBuilder();
            for (int day = 0; day < 12; day++) {
                signs.append(castOn(day).contains(actor) ? 'W' : '.');
            }
            Matcher gaps = Pattern.compile("(?<=W)\\.+(?=W)").matcher(signs);
            int start = -1;
            int length = 0;
            StringBuilder out = new StringBuilder(signs);
            while (gaps.find()) {
                for (int at = gaps.start(); at < gaps.end(); at++) {
                    out.setCharAt(at, 'h');
                }
                if (gaps.end() - gaps.start() > length) {
                    start = gaps.start();
                    length = gaps.end() - start;
                }
            }
            for (int at = start; length >= settings[3] && at < start + length; at++) {
                out.setCharAt(at, 'd');
            }
            return out.toString();
        }

        int statusOf(int actor, int day) {
            actor(actor);
            return ".Whd".indexOf(signs(actor).charAt(day(day)));
        }

        int firstDay(int actor) {
            return signs(actor).indexOf('W');
        }

        int lastDay(int actor) {
            return signs(actor).lastIndexOf('W');
        }

        int daysWith(int actor, int status) {
            String signs = signs(actor);
            return status < 0 || status > 3 ? -2 : (int) signs.chars().filter(sign -> sign == ".Whd".charAt(status)).count();
        }

        int actorCost(int actor) {
            int fee = actor(actor).fee;
            return fee * daysWith(actor, 1) + holdingCost(actor);
        }

        int holdingCost(int actor) {
            return (int) Math.floor(actor(actor).fee * settings[2] / 100.0) * daysWith(actor, 2);
        }

        int holdingCost() {
            int sum = 0;
            for (int actor = 0; actor < actors.size(); actor++) {
                sum += holdingCost(actor);
            }
            return sum;
        }

        int moves() {
            List<Integer> busy = busyDays();
            int count = 0;
            for (int index = 1; index < busy.size(); index++) {
                count += locationOn(busy.get(index)) == locationOn(busy.get(index - 1)) ? 0 : 1;
            }
            return count;
        }

        int cost() {
            int sum = moves() * settings[1];
            for (int actor = 0; actor < actors.size(); actor++) {
                sum += actorCost(actor);
            }
            for (int day : busyDays()) {
                sum += locations.get(locationOn(day)).rate;
            }
            return sum;
        }

        boolean breaksTurnaround() {
            for (int day = 0; day < 11; day++) {
                if (isNight(day) && !isNight(day + 1) && !Collections.disjoint(castOn(day), castOn(day + 1))) {
                    return true;
                }
            }
            return false;
        }

        Model copy() {
            Model copy = new Model();
            copy.locations.addAll(locations);
            copy.actors.addAll(actors);
            copy.scenes.addAll(scenes);
            copy.settings = settings.clone();
            return copy;
        }

        Model with(int scene, int day) {
            Model copy = copy();
            copy.scenes.set(scene, scenes.get(scene).on(day));
            return copy;
        }

        int reasonFor(int scene, int day) {
            Scene it = scene(scene);
            List<Scene> others = with(scene, -1).on(day(day));
            if (others.stream().anyMatch(other -> other.location != it.location)) {
                return 1;
            }
            if (others.stream().anyMatch(other -> other.night != it.night)) {
                return 2;
            }
            if (with(scene, day).lengthOn(day) > settings[0]) {
                return 3;
            }
            return with(scene, day).breaksTurnaround() ? 4 : 0;
        }

        int daysFor(int scene) {
            Set<Integer> days = new TreeSet<>();
            for (int day = 0; day < 12; day++) {
                if (reasonFor(scene, day) == 0) {
                    days.add(day);
                }
            }
            return bits(days);
        }

        int costWith(int scene, int day) {
            return reasonFor(scene, day) == 0 ? with(scene, day).cost() : -5;
        }

        int bestDay(int scene) {
            int best = -1;
            for (int day = 11; day >= 0; day--) {
                int cost = costWith(scene, day);
                if (cost >= 0 && (best < 0 || cost <= costWith(scene, best))) {
                    best = day;
                }
            }
            scene(scene);
            return best;
        }

        int fewestDays() {
            int sum = 0;
            for (int half = 0; half < locations.size() * 2; half++) {
                int location = half / 2;
                boolean night = half % 2 == 1;
                int length = scenes.stream().filter(scene -> scene.location == location && scene.night == night)
                    .mapToInt(Scene::length).sum();
                sum += (int) Math.ceil(length / (double) settings[0]);
            }
            return sum;
        }

        int waitingFor(int location, boolean night) {
            Objects.checkIndex(location, locations.size());
            return (int) scenes.stream()
                .filter(scene -> scene.location == location && scene.night == night && scene.day < 0).count();
        }

        /** The days that are shot, -1 for a day of rest, -2 for a lost one. */
        List<Integer> shoot(int rain) {
            List<Integer> queue = new ArrayList<>();
            for (int day = 0; day < span(); day++) {
                queue.add(day);
            }
            List<Integer> shot = new ArrayList<>();
            while (!queue.isEmpty()) {
                int today = shot.size();
                boolean rains = today <= 11 && (rain & 1 << today) != 0;
                int yesterday = today == 0 ? -1 : shot.get(today - 1);
                int result = choose(queue, rains, yesterday);
                shot.add(result);
                queue.remove((Integer) result);
            }
            return shot;
        }

        private int choose(List<Integer> queue, boolean rains, int yesterday) {
            int first = queue.get(0);
            if (on(first).isEmpty()) {
                return first;
            }
            boolean outside = !locations.get(locationOn(first)).inside;
            if (!(rains && outside) && !isTired(first, yesterday)) {
                return first;
            }
            if (rains && outside) {
                return queue.stream().skip(1).filter(day -> !on(day).isEmpty())
                    .filter(day -> locations.get(locationOn(day)).inside)
                    .filter(day -> !isTired(day, yesterday)).findFirst().orElse(-2);
            }
            return -1;
        }

        private boolean isTired(int day, int yesterday) {
            return yesterday >= 0 && isNight(yesterday) && !isNight(day)
                && !Collections.disjoint(castOn(day), castOn(yesterday));
        }

        int rainDays(int rain) {
            return rain < 0 || rain > 4095 ? -2 : shoot(rain).size();
        }

        int rainLost(int rain) {
            return rain < 0 || rain > 4095 ? -2 : Collections.frequency(shoot(rain), -2);
        }

        int rainDay(int rain, int calendar) {
            if (rain < 0 || rain > 4095 || calendar < 0) {
                return -2;
            }
            List<Integer> shot = shoot(rain);
            return calendar < shot.size() ? Math.max(-1, shot.get(calendar)) : -1;
        }

        int worstRain() {
            int worst = 11;
            for (int day = 10; day >= 0; day--) {
                worst = rainDays(1 << day) >= rainDays(1 << worst) ? day : worst;
            }
            return worst;
        }

        Model ordered(List<Integer> order) {
            Model copy = copy();
            copy.scenes.replaceAll(scene -> scene.on(order.indexOf(scene.day)));
            return copy;
        }

        /** Null if the search is too large. */
        List<Integer> best() {
            List<Integer> busy = busyDays();
            if (busy.size() > 7) {
                return null;
            }
            Orders orders = new Orders(this, busy);
            orders.go(new ArrayList<>());
            return orders.best;
        }

        int bestCost() {
            List<Integer> best = best();
            return best == null ? -4 : ordered(best).cost();
        }

        int bestOrder(int place) {
            List<Integer> best = best();
            return best == null ? -4 : place >= 0 && place < best.size() ? best.get(place) : -1;
        }

        private void keep() {
            changes.addLast(new Change(new ArrayList<>(scenes), settings.clone()));
            if (changes.size() > 12) {
                changes.removeFirst();
            }
        }

        int put(int scene, int day) {
            if (scene < 0 || scene >= scenes.size()) {
                return -1;
            }
            if (day < 0 || day > 11) {
                return -2;
            }
            if (reasonFor(scene, day) != 0) {
                return -5;
            }
            keep();
            scenes.set(scene, scenes.get(scene).on(day));
            return cost();
        }

        int take(int scene) {
            if (scene < 0 || scene >= scenes.size() || scenes.get(scene).day < 0) {
                return -1;
            }
            keep();
            scenes.set(scene, scenes.get(scene).on(-1));
            return cost();
        }

        int exchange(int one, int other) {
            if (Math.min(one, other) < 0 || Math.max(one, other) > 11) {
                return -2;
            }
            Model copy = copy();
            copy.scenes.replaceAll(scene -> scene.day == one ? scene.on(other) : scene.day == other ? scene.on(one) : scene);
            if (copy.breaksTurnaround()) {
                return -5;
            }
            keep();
            scenes = copy.scenes;
            return cost();
        }

        int fill() {
            Model copy = copy();
            int count = 0;
            for (int scene = 0; scene < scenes.size(); scene++) {
                int days = copy.daysFor(scene);
                if (scenes.get(scene).day < 0 && days != 0) {
                    copy.scenes.set(scene, scenes.get(scene).on(Integer.numberOfTrailingZeros(days)));
                    count++;
                }
            }
            if (count > 0) {
                keep();
                scenes = copy.scenes;
            }
            return count;
        }

        int useBestOrder() {
            List<Integer> best = best();
            if (best == null) {
                return -4;
            }
            keep();
            scenes = ordered(best).scenes;
            return cost();
        }

        int setSetting(int setting, int value) {
            int[][] ranges = {{1, 99}, {0, 9999}, {0, 100}, {1, 12}};
            if (setting < 0 || setting > 3 || value < ranges[setting][0] || value > ranges[setting][1]) {
                return -2;
            }
            for (int day = 0; setting == 0 && day < 12; day++) {
                if (lengthOn(day) > value) {
                    return -5;
                }
            }
            keep();
            int previous = settings[setting];
            settings[setting] = value;
            return previous;
        }

        int undo() {
            if (changes.isEmpty()) {
                return -1;
            }
            Change change = changes.removeLast();
            scenes = change.scenes;
            settings = change.settings;
            return changes.size();
        }
    }

    /** All orders, one after the other; costs are counted again from the start for each. */
    private static final class Orders {
        private final Model model;
        private final List<Integer> busy;
        private final boolean[] night = new boolean[12];
        private final int[] cast = new int[12];
        private final int[] place = new int[12];
        private int least = Integer.MAX_VALUE;
        List<Integer> best = new ArrayList<>();

        Orders(Model model, List<Integer> busy) {
            this.model = model;
            this.busy = busy;
            for (int day : busy) {
                night[day] = model.isNight(day);
                cast[day] = bits(model.castOn(day));
                place[day] = model.locationOn(day);
            }
        }

        void go(List<Integer> order) {
            if (order.size() == busy.size()) {
                int cost = changingCost(order);
                if (cost < least) {
                    least = cost;
                    best = new ArrayList<>(order);
                }
                return;
            }
            for (int day : busy) {
                int before = order.isEmpty() ? -1 : order.get(order.size() - 1);
                boolean allowed = before < 0 || !night[before] || night[day] || (cast[before] & cast[day]) == 0;
                if (!order.contains(day) && allowed) {
                    order.add(day);
                    go(order);
                    order.remove(order.size() - 1);
                }
            }
        }

        private int changingCost(List<Integer> order) {
            int sum = 0;
            for (int index = 1; index < order.size(); index++) {
                sum += place[order.get(index)] == place[order.get(index - 1)] ? 0 : model.settings[1];
            }
            for (int actor = 0; actor < model.actors.size(); actor++) {
                int before = -1;
                int gaps = 0;
                int longest = 0;
                for (int index = 0; index < order.size(); index++) {
                    if ((cast[order.get(index)] >> actor & 1) == 1) {
                        int gap = before < 0 ? 0 : index - before - 1;
                        gaps += gap;
                        longest = Math.max(longest, gap);
                        before = index;
                    }
                }
                int held = longest >= model.settings[3] ? gaps - longest : gaps;
                sum += held * (model.actors.get(actor).fee * model.settings[2] / 100);
            }
            return sum;
        }
    }

    private record Token(String text, int at) {
    }

    private static final class Fault extends RuntimeException {
        private static final long serialVersionUID = 1L;
        final int code;
        final int at;

        Fault(int code, Token token) {
            this.code = code;
            this.at = token.at;
        }
    }

    /** The text format, on a list of tokens. */
    private static final class Parser {
        private static final Pattern TOKEN = Pattern.compile("[a-z]+|[0-9]+|[^ \n]", Pattern.DOTALL);
        private static final Set<String> RESERVED = Set.of("actor", "scene", "set", "day", "in", "out", "night", "move",
            "hold", "drop");
        private static final List<String> SETTINGS = List.of("capacity", "move", "hold", "drop");

        final Model model = new Model();
        int errorAt;
        private final Deque<Token> tokens = new ArrayDeque<>();
        private final Set<String> given = new HashSet<>();
        private boolean dayGiven = false;

        Parser(String text) {
            Matcher matcher = TOKEN.matcher(text);
            while (matcher.find()) {
                tokens.add(new Token(matcher.group(), matcher.start()));
            }
            tokens.add(new Token("", text.length()));
        }

        int read() {
            int count = 0;
            try {
                while (!tokens.peek().text.isEmpty()) {
                    statement();
                    require(tokens.peek().text.equals(";"), -11);
                    tokens.remove();
                    count++;
                }
                return count;
            } catch (Fault fault) {
                errorAt = fault.at;
                return fault.code;
            }
        }

        private void require(boolean holds, int code) {
            if (!holds) {
                throw new Fault(code, tokens.peek());
            }
        }

        private void statement() {
            switch (tokens.peek().text) {
                case "location": location(); break;
                case "actor": actor(); break;
                case "scene": scene(); break;
                case "set": set(); break;
                case "day": day(); break;
                default: require(false, -11);
            }
        }

        private void location() {
            require(model.locations.size() < 4, -17);
            tokens.remove();
            String name = newName();
            int rate = integer(0, 9999);
            require(Set.of("in", "out").contains(tokens.peek().text), -11);
            model.locations.add(new Location(name, rate, tokens.remove().text.equals("in")));
        }

        private void actor() {
            require(model.actors.size() < 6, -17);
            tokens.remove();
            String name = newName();
            model.actors.add(new Actor(name, integer(0, 9999)));
        }

        private void scene() {
            require(model.scenes.size() < 14, -17);
            tokens.remove();
            requireName();
            int location = model.locationNamed(tokens.peek().text);
            require(location >= 0, -13);
            tokens.remove();
            int length = integer(1, 60);
            boolean night = tokens.peek().text.equals("night");
            if (night) {
                tokens.remove();
            }
            Set<Integer> cast = new TreeSet<>();
            while (!tokens.peek().text.equals(";")) {
                requireName();
                int actor = model.actorNamed(tokens.peek().text);
                require(actor >= 0, -13);
                require(cast.add(actor), -14);
                tokens.remove();
            }
            model.scenes.add(new Scene(location, length, night, cast, -1));
        }

        private void set() {
            require(!dayGiven, -15);
            tokens.remove();
            int setting = SETTINGS.indexOf(tokens.peek().text);
            require(setting >= 0, -11);
            require(given.add(tokens.peek().text), -14);
            tokens.remove();
            int[][] ranges = {{1, 99}, {0, 9999}, {0, 100}, {1, 12}};
            model.settings[setting] = integer(ranges[setting][0], ranges[setting][1]);
        }

        private void day() {
            tokens.remove();
            int day = integer(0, 11);
            do {
                Token token = tokens.peek();
                int scene = integer(0, model.scenes.size() - 1);
                if (model.scenes.get(scene).day >= 0) {
                    throw new Fault(-14, token);
                }
                if (model.reasonFor(scene, day) != 0) {
                    throw new Fault(-16, token);
                }
                model.scenes.set(scene, model.scenes.get(scene).on(day));
            } while (!tokens.peek().text.equals(";"));
            dayGiven = true;
        }

        private void requireName() {
            String text = tokens.peek().text;
            require(text.matches("[a-z]{1,6}") && !RESERVED.contains(text), -11);
        }

        private String newName() {
            requireName();
            String text = tokens.peek().text;
            require(model.locationNamed(text) < 0 && model.actorNamed(text) < 0, -14);
            return tokens.remove().text;
        }

        private int integer(int least, int most) {
            String text = tokens.peek().text;
            require(text.matches("[0-9]+"), -11);
            java.math.BigInteger value = new java.math.BigInteger(text);
            require(value.bitLength() < 31 && value.intValue() >= least && value.intValue() <= most, -12);
            tokens.remove();
            return value.intValue();
        }
    }

    /** Texts that are right for the most part; with faults, they are broken in some places. */
    private static final class Texts {
        static final String[] NAMES = {"a", "b", "c", "d", "p", "q", "r", "s", "t", "house", "beach", "zzzzzz", "ab", "e"};
        private static final String[] ODD = {"location", "night", "in", "out", "capacity", "drop", "abcdefg", "?", "A", ";",
            "0", "13", "61", "10000", "99999999999", "set", "day", "scene", "actor", "\u00e9", "p", "a", "move", "-"};

        private static final String[] ODD_NUMBERS = {"0", "1", "2", "11", "12", "13", "14", "60", "61", "99", "100", "101",
            "9999", "10000", "000000000005", "4294967297"};

        private final Random source;

        Texts(Random source) {
            this.source = source;
        }

        String text(int faults) {
            List<String> words = new ArrayList<>();
            for (int setting = 0; setting < 4; setting++) {
                if (source.nextInt(3) == 0) {
                    int[] values = {8 + source.nextInt(30), source.nextInt(300), source.nextInt(101), 1 + source.nextInt(6)};
                    add(words, "set " + Parser.SETTINGS.get(setting) + " " + values[setting] + " ;");
                }
            }
            int locations = 1 + source.nextInt(faults > 0 ? 5 : 4);
            for (int location = 0; location < locations; location++) {
                add(words, "location " + NAMES[location] + " " + pay() + (source.nextInt(3) > 0 ? " out ;" : " in ;"));
            }
            int actors = source.nextInt(3) + source.nextInt(faults > 0 ? 6 : 5);
            for (int actor = 0; actor < actors; actor++) {
                add(words, "actor " + (actor < 5 ? NAMES[4 + actor] : actor == 5 ? "house" : "beach") + " " + pay() + " ;");
            }
            int scenes = source.nextInt(7) + source.nextInt(faults > 0 && source.nextInt(3) == 0 ? 10 : 9);
            int nights = source.nextInt(3);
            for (int scene = 0; scene < scenes; scene++) {
                add(words, scene(locations, actors, nights));
            }
            days(words, scenes, faults);
            if (faults > 0 && source.nextInt(5) == 0) {
                add(words, source.nextBoolean() ? "set move 3 ;" : "actor e 1 ;");
            }
            for (int fault = 0; fault < faults; fault++) {
                int at = source.nextInt(words.size());
                words.set(at, odd(words, words.get(at)));
            }
            return join(words);
        }

        private void days(List<String> words, int scenes, int faults) {
            if (scenes > 0 && source.nextInt(2) == 0) {
                int days = source.nextInt(3);
                for (int day = 0; day < days; day++) {
                    String more = faults > 0 && source.nextInt(4) == 0 ? " " + source.nextInt(scenes) : "";
                    add(words, "day " + source.nextInt(12) + " " + source.nextInt(scenes) + more + " ;");
                }
            }
        }

        private String scene(int locations, int actors, int nights) {
            StringBuilder text = new StringBuilder("scene " + NAMES[source.nextInt(locations)] + " " + (1 + source.nextInt(9)));
            text.append(source.nextInt(4) < nights ? " night" : "");
            for (int actor = 0; actor < actors; actor++) {
                if (source.nextInt(4) == 0) {
                    text.append(' ').append(actor < 5 ? NAMES[4 + actor] : actor == 5 ? "house" : "beach");
                }
            }
            return text + " ;";
        }

        private int pay() {
            return source.nextInt(4) == 0 ? source.nextInt(10000) : source.nextInt(60);
        }

        private String odd(List<String> words, String old) {
            if (old.matches("[0-9]+") && source.nextInt(3) > 0) {
                return ODD_NUMBERS[source.nextInt(ODD_NUMBERS.length)];
            }
            if (Arrays.asList(NAMES).contains(old) && source.nextInt(3) > 0) {
                return NAMES[source.nextInt(NAMES.length)];
            }
            return source.nextInt(3) == 0 ? words.get(source.nextInt(words.size())) : ODD[source.nextInt(ODD.length)];
        }

        private static void add(List<String> words, String statement) {
            words.addAll(Arrays.asList(statement.split(" ")));
        }

        private String join(List<String> words) {
            StringBuilder text = new StringBuilder();
            for (String word : words) {
                boolean glued = text.length() == 0 || word.equals(";") || text.charAt(text.length() - 1) == ';';
                text.append(glued && source.nextInt(20) > 0 ? "" : source.nextInt(9) == 0 ? "\n" : " ").append(word);
            }
            int end = source.nextInt(30) == 0 ? source.nextInt(text.length() + 1) : text.length();
            return text.substring(0, Math.min(880, end));
        }
    }
}
