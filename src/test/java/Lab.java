import java.lang.reflect.InvocationTargetException;
import java.lang.reflect.Method;
import java.util.ArrayList;
import java.util.Comparator;
import java.util.List;
import java.util.NoSuchElementException;

/** What the tests share: due answers and exceptions, short ways to set an object up, and all that one tells of itself. */
abstract class Lab {
    static final Class<?> RANGE = IllegalArgumentException.class;
    static final Class<?> INDEX = IndexOutOfBoundsException.class;
    static final Class<?> REFUSED = UnsupportedOperationException.class;
    static final Class<?> FULL = IllegalStateException.class;
    static final Class<?> MISSING = NoSuchElementException.class;
    static final int LEAST = Integer.MIN_VALUE;
    static final int MOST = Integer.MAX_VALUE;
    private static String test = "";
    private static int wrong;

    interface Call {
        Object get();
    }

    interface Ask {
        Object of(TurnFace x);
    }

    interface Maker {
        TurnFace make();
    }

    // ---- running

    /** Each boundary's or sentence's test by itself, in the order of the promises, so that one that fails hides no other. */
    static void runEdges(Class<?> tests) throws IllegalAccessException {
        List<Method> edges = edgesOf(tests);
        for (Method edge : edges) {
            test = "promise " + edge.getAnnotation(Edge.class).promise() + ", " + edge.getName() + ": ";
            try {
                edge.invoke(null);
            } catch (InvocationTargetException e) {
                due("it", "ended with " + e.getCause(), "no exception");
            }
        }
        end(edges.size() + " hold");
    }

    static List<Method> edgesOf(Class<?> tests) {
        List<Method> edges = new ArrayList<>();
        for (Method method : tests.getDeclaredMethods()) {
            if (method.isAnnotationPresent(Edge.class)) {
                edges.add(method);
            }
        }
        edges.sort(Comparator.comparing((Method m) -> m.getAnnotation(Edge.class).promise()).thenComparing(Method::getName));
        return edges;
    }

    static void end(String allIsWell) {
        System.out.println(wrong == 0 ? allIsWell : wrong + " answers are not as due");
        if (wrong != 0) {
            System.exit(1);
        }
    }

    // ---- what is due

    static void due(String name, Object got, Object want) {
        if (!String.valueOf(got).equals(String.valueOf(want))) {
            wrong++;
            System.out.println(test + name + " answered " + got + ", due is " + want);
        }
    }

    /** The exact class is asked for, so that what the machine throws by itself does not pass. */
    static void fails(String name, Class<?> want, Call call) {
        due(name, answer(call), "throws." + want.getSimpleName());
    }

    /** A call is refused, and what it was made on tells the same of itself then as another one, made alike and left alone. */
    static void refused(String name, Class<?> want, Maker made, Ask call) {
        TurnFace tried = made.make();
        fails(name, want, () -> call.of(tried));
        due(name + ", afterwards", all(tried), all(made.make()));
    }

    /** For each competitor of the round 0, y or n: whether it advances if so many are told to. */
    static void expectAdvancing(String name, TurnFace x, int many, String due) {
        StringBuilder got = new StringBuilder();
        for (int i = 0; i < due.length(); i++) {
            got.append(x.advances(0, i, many) ? 'y' : 'n');
        }
        due(name, got, due);
    }

    static String answer(Call call) {
        try {
            return String.valueOf(call.get());
        } catch (RuntimeException e) {
            return "throws." + e.getClass().getSimpleName();
        }
    }

    // ---- setting up

    static void typePlaces(TurnFace x, int... places) {
        for (int place : places) {
            x.typePlace(place);
        }
    }

    static TurnFace typed(int... places) {
        TurnFace x = new TurnFace();
        typePlaces(x, places);
        return x;
    }

    static void addRing(TurnFace x, int puzzle, int step, int... places) {
        x.wipePlaces();
        typePlaces(x, places);
        x.ring(puzzle, step);
    }

    static TurnFace bare(int places) {
        TurnFace x = new TurnFace();
        x.puzzle(places);
        return x;
    }

    /** One ring of all places but those behind the eighth. */
    static TurnFace ringed(int places, int step) {
        TurnFace x = bare(places);
        int[] row = new int[Math.min(places, 8)];
        for (int i = 0; i < row.length; i++) {
            row[i] = i;
        }
        addRing(x, 0, step, row);
        return x;
    }

    /** Four places, A a ring of the first three, B the last two swapped: all 24 states. */
    static TurnFace four() {
        TurnFace x = bare(4);
        addRing(x, 0, 1, 0, 1, 2);
        addRing(x, 0, 1, 2, 3);
        return x;
    }

    /** Five places, four rings: A, B, C and D swap a place with the one behind it: all 120 states. */
    static TurnFace fourRings() {
        TurnFace x = bare(5);
        for (int i = 0; i < 4; i++) {
            addRing(x, 0, 1, i, i + 1);
        }
        return x;
    }

    /** Ten places, all 3628800 states. */
    static TurnFace ten() {
        TurnFace x = ringed(10, 1);
        addRing(x, 0, 1, 7, 8);
        addRing(x, 0, 1, 8, 9);
        return x;
    }

    /** Of the groups that rings make on ten places at most none has a greater order up to 800; the next one above has 864. */
    static TurnFace ofOrder768() {
        TurnFace x = ringed(10, 1);
        addRing(x, 0, 2, 0, 4, 1, 5);
        addRing(x, 0, 1, 0, 4);
        addRing(x, 0, 1, 8, 9);
        return x;
    }

    static TurnFace ofOrder864() {
        TurnFace x = bare(10);
        addRing(x, 0, 2, 9, 1, 7, 8);
        addRing(x, 0, 3, 2, 5, 7, 1, 0, 3);
        addRing(x, 0, 2, 6, 4, 8, 0);
        return x;
    }

    static TurnFace worded(String signs) {
        TurnFace x = four();
        typeAll(x, signs);
        return x;
    }

    static void typeAll(TurnFace x, String signs) {
        x.wipe();
        for (char sign : signs.toCharArray()) {
            x.type(sign);
        }
    }

    static TurnFace competing(int competitors, char format, int limit, int cutoff) {
        TurnFace x = new TurnFace();
        for (int i = 0; i < competitors; i++) {
            x.competitor(0);
        }
        x.round(format, limit, cutoff);
        return x;
    }

    /** Attempts without a penalty; a time below 0 is one with a pop. */
    static void times(TurnFace x, int round, int competitor, int... times) {
        for (int time : times) {
            x.attempt(round, competitor, 0, Math.abs(time), 0, time < 0);
        }
    }

    /** One attempt for each competitor. */
    static void firstTimes(TurnFace x, int round, int... times) {
        for (int i = 0; i < times.length; i++) {
            times(x, round, i, times[i]);
        }
    }

    static String pieces(TurnFace x, int puzzle, int places) {
        StringBuilder row = new StringBuilder();
        for (int i = 0; i < places; i++) {
            row.append(x.pieceAt(puzzle, i));
        }
        return row.toString();
    }

    // ---- all that an object tells of itself

    /**
     * What is asked first leaves alone what is asked later; behind it the object is used up. With the calls that
     * make the object these are to stay within its 512, so what is asked of much is asked with few others.
     */
    static String all(TurnFace x) {
        StringBuilder told = new StringBuilder();
        tell(told, "sum", () -> x.checksum());
        tell(told, "share", () -> x.resultShare());
        for (int p = 0; p < 4 && tell(told, "order", puzzleOrder(x, p)); p++) {
            tellPuzzle(told, x, p);
        }
        tellTyped(told, x);
        tellRounds(told, x);
        tell(told, "puzzles", () -> x.puzzle(3));
        return told.toString();
    }

    private static Call puzzleOrder(TurnFace x, int puzzle) {
        return () -> x.order(puzzle);
    }

    /** Whether it was answered, not refused. */
    private static boolean tell(StringBuilder told, String name, Call call) {
        String answer = answer(call);
        told.append(' ').append(name).append(' ').append(answer);
        return !answer.startsWith("throws.");
    }

    private static void tellPuzzle(StringBuilder told, TurnFace x, int p) {
        tell(told, "solved", () -> x.isSolved(p));
        tell(told, "in", () -> x.isIn(p));
        tell(told, "distance", () -> x.distance(p, 'q'));
        tell(told, "search", () -> x.search(p, 2));
        boolean isThere = true;
        for (int i = 0; isThere; i++) {
            int place = i;
            isThere = tell(told, "piece", () -> x.pieceAt(p, place)) && tell(told, "colour", () -> x.colour(p, place, 0));
        }
        tellRings(told, x, p);
    }

    private static void tellRings(StringBuilder told, TurnFace x, int p) {
        boolean isThere = true;
        for (char i = 'A'; isThere; i++) {
            char ring = i;
            isThere = tell(told, "turn", () -> x.turn(p, ring, 1));
            tell(told, "sum", () -> x.checksum());
        }
    }

    /** The typed signs as a word, and their number; the typed places as a ring or, if they can be none, one by one. */
    private static void tellTyped(StringBuilder told, TurnFace x) {
        tell(told, "word", () -> x.isWord());
        boolean isThere = true;
        for (int i = 0; isThere && i < 8; i++) {
            int index = i;
            isThere = tell(told, "turn", () -> x.turnAt(index));
        }
        tell(told, "type", () -> x.type('A'));
        tell(told, "word", () -> x.isWord());
        tell(told, "signs", () -> x.wipe());
        if (tell(told, "ring", () -> x.ring(0, 1))) {
            tellRings(told, x, 0);
        } else {
            for (int i = 0; i < 10; i++) {
                int place = i;
                tell(told, "place", () -> x.typePlace(place));
            }
        }
        tell(told, "places", () -> x.wipePlaces());
    }

    /** One more competitor and one more round tell how many there are of each. */
    private static void tellRounds(StringBuilder told, TurnFace x) {
        tell(told, "competitors", () -> x.competitor(0));
        tell(told, "rounds", () -> x.round('5', 0, 0));
        int competitors = 0;
        int rounds = 0;
        for (; has(x, 0, competitors); competitors++) {
            for (rounds = 0; has(x, rounds, competitors); rounds++) {
                tellResults(told, x, rounds, competitors);
            }
        }
        for (int r = 0; r < rounds; r++) {
            int round = r;
            tell(told, "undo", () -> x.undo(round));
            for (int c = 0; c < competitors && competitors < 8; c++) {
                tellMore(told, x, r, c);
            }
        }
        tellDays(told, x, rounds);
    }

    private static boolean has(TurnFace x, int r, int c) {
        return !answer(() -> x.attempts(r, c)).startsWith("throws.");
    }

    private static void tellResults(StringBuilder told, TurnFace x, int r, int c) {
        if (tell(told, "rank", () -> x.rank(r, c))) {
            tell(told, "attempts", () -> x.attempts(r, c));
            tell(told, "best", () -> x.best(r, c));
            tell(told, "average", () -> x.average(r, c));
            tell(told, "record", () -> x.isRecord(r, c, false));
            tell(told, "record", () -> x.isRecord(r, c, true));
        }
    }

    /** Whether one more attempt can be told, in whatever format, and what it comes to. */
    private static void tellMore(StringBuilder told, TurnFace x, int r, int c) {
        tell(told, "attempt", () -> x.attempt(r, c, 0, 1, 0, false));
        tell(told, "moves", () -> x.moves(r, c, 0));
        tell(told, "several", () -> x.several(r, c, 2, 2, 1));
    }

    /** The first day on which a round can be closed tells the day of the one closed last, if that is not far. */
    private static void tellDays(StringBuilder told, TurnFace x, int rounds) {
        int day = 0;
        for (int round = 0; round < rounds; round++) {
            while (day < 12 && isAheadOfTheLast(x, round, day)) {
                day++;
            }
            told.append(" day ").append(day);
        }
    }

    private static boolean isAheadOfTheLast(TurnFace x, int round, int day) {
        return answer(() -> x.close(round, day)).equals("throws.IllegalArgumentException");
    }
}
