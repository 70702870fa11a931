import java.lang.reflect.Field;
import java.lang.reflect.Method;
import java.lang.reflect.Modifier;
import java.util.Arrays;
import java.util.Set;
import java.util.TreeSet;

/** The public face, and promise 1: a new object. */
public final class FaceTest {
    private static final String METHODS = "feed:int,int,int,int,int load:int errorPosition: locationCount: actorCount: "
        + "sceneCount: undoCount: locationNamed:int actorNamed:int getSetting:int locationProperty:int,int feeOf:int "
        + "sceneProperty:int,int dayOf:int scenesOn:int locationOn:int isNight:int lengthOn:int castOn:int span: "
        + "statusOf:int,int firstDay:int lastDay:int daysWith:int,int actorCost:int moves: cost: holdingCost: "
        + "reasonFor:int,int daysFor:int costWith:int,int bestDay:int fewestDays: waitingFor:int,boolean rainDays:int "
        + "rainLost:int rainDay:int,int worstRain: bestCost: bestOrder:int put:int,int take:int exchange:int,int fill: "
        + "useBestOrder: setSetting:int,int undo:";
    private static final String THROWING = "locationProperty feeOf sceneProperty dayOf scenesOn locationOn isNight "
        + "lengthOn castOn statusOf firstDay lastDay daysWith actorCost reasonFor daysFor costWith bestDay waitingFor";
    private static final String CONSTANTS = "CAPACITY=0 MOVE=1 HOLD=2 DROP=3 OFF=0 WORK=1 HOLDING=2 DROPPED=3 "
        + "NOT_FOUND=-1 BAD_VALUE=-2 FULL=-3 TOO_LARGE=-4 IMPOSSIBLE=-5 SYNTAX_ERROR=-11 RANGE_ERROR=-12 "
        + "NAME_ERROR=-13 DUPLICATE_ERROR=-14 ORDER_ERROR=-15 STATE_ERROR=-16 COUNT_ERROR=-17";

    public static void main(String[] args) throws IllegalAccessException {
        methods();
        declaredExceptions();
        namesOfPrivateMethods();
        constants();
        newObject();
        Check.end();
    }

    private static void methods() {
        Set<String> got = new TreeSet<>();
        for (Method method : FilmSchedule.class.getDeclaredMethods()) {
            if (!Modifier.isPrivate(method.getModifiers())) {
                StringBuilder types = new StringBuilder();
                for (Class<?> type : method.getParameterTypes()) {
                    types.append(types.length() == 0 ? "" : ",").append(type.getName());
                }
                got.add(method.getName() + ":" + types);
                Check.due(method + " is public", Modifier.isPublic(method.getModifiers()), true);
                boolean tells = method.getReturnType() == (method.getName().equals("isNight") ? boolean.class : int.class);
                Check.due(method + " has the type of the document", tells, true);
            }
        }
        Set<String> want = new TreeSet<>(Arrays.asList(METHODS.split(" ")));
        Check.due("the methods " + got + " for " + want, got.equals(want), true);
        Check.due("the constructors", FilmSchedule.class.getDeclaredConstructors().length, 1);
        Check.due("the class is public and final", FilmSchedule.class.getModifiers(), Modifier.PUBLIC | Modifier.FINAL);
    }

    /** Each method with a throws clause in the document has it, and no other one. */
    private static void declaredExceptions() {
        Set<String> got = new TreeSet<>();
        for (Method method : FilmSchedule.class.getMethods()) {
            if (method.getDeclaringClass() == FilmSchedule.class && method.getExceptionTypes().length > 0) {
                got.add(method.getName());
                Check.dueText(method.getName() + " throws", Arrays.toString(method.getExceptionTypes()),
                    "[" + IndexOutOfBoundsException.class + "]");
            }
        }
        Set<String> want = new TreeSet<>(Arrays.asList(THROWING.split(" ")));
        Check.due("the methods that throw " + got + " for " + want, got.equals(want), true);
    }

    /** LANGUAGE.md, rule 1. */
    private static void namesOfPrivateMethods() {
        Set<String> open = new TreeSet<>();
        for (Method method : FilmSchedule.class.getMethods()) {
            open.add(method.getName());
        }
        for (Class<?> inside : FilmSchedule.class.getDeclaredClasses()) {
            Check.due(inside + " is static", Modifier.isStatic(inside.getModifiers()), true);
            dueOtherNames(inside, open);
        }
        dueOtherNames(FilmSchedule.class, open);
    }

    private static void dueOtherNames(Class<?> type, Set<String> open) {
        for (Method method : type.getDeclaredMethods()) {
            boolean hidden = Modifier.isPrivate(method.getModifiers()) || type != FilmSchedule.class;
            Check.due(method + " has a name of the face", hidden && open.contains(method.getName()), false);
        }
    }

    private static void constants() throws IllegalAccessException {
        Set<String> got = new TreeSet<>();
        for (Field field : FilmSchedule.class.getDeclaredFields()) {
            if (!Modifier.isPrivate(field.getModifiers())) {
                got.add(field.getName() + "=" + field.getInt(null));
            }
        }
        Set<String> want = new TreeSet<>(Arrays.asList(CONSTANTS.split(" ")));
        Check.due("the constants " + got + " for " + want, got.equals(want), true);
    }

    private static void newObject() {
        FilmSchedule film = new FilmSchedule();
        Check.due("1: locationCount()", film.locationCount(), 0);
        Check.due("1: actorCount()", film.actorCount(), 0);
        Check.due("1: sceneCount()", film.sceneCount(), 0);
        Check.due("1: undoCount()", film.undoCount(), 0);
        Check.due("1: undo()", film.undo(), FilmSchedule.NOT_FOUND);
        Check.due("1: errorPosition()", film.errorPosition(), FilmSchedule.NOT_FOUND);
        Check.due("1: capacity", film.getSetting(FilmSchedule.CAPACITY), 24);
        Check.due("1: move", film.getSetting(FilmSchedule.MOVE), 100);
        Check.due("1: hold", film.getSetting(FilmSchedule.HOLD), 50);
        Check.due("1: drop", film.getSetting(FilmSchedule.DROP), 4);
        Check.due("1: load(1) of an empty buffer", film.load(1), FilmSchedule.BAD_VALUE);
        Check.due("1: span()", film.span(), 0);
        Check.due("1: cost()", film.cost(), 0);
        for (int day = 0; day < 12; day++) {
            Check.due("1: locationOn", film.locationOn(day), FilmSchedule.NOT_FOUND);
        }
    }
}
