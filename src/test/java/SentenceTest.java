import java.util.ArrayList;
import java.util.HashMap;
import java.util.LinkedHashMap;
import java.util.List;
import java.util.Map;

/** What the sentences say that name no boundary: each one, in the order of the promises, by answers worked out by hand or plainly. */
public final class SentenceTest extends Lab {
    private static final String SIGNS = "AB23-<>[|]";

    public static void main(String[] args) throws IllegalAccessException {
        runEdges(SentenceTest.class);
    }

    /** A row of numbers by places after one turn: what is at each place of the ring goes to the one so many further. */
    private static String turned(String row, int[] ring, int step, boolean isBack) {
        char[] result = row.toCharArray();
        for (int i = 0; i < ring.length; i++) {
            int further = ring[(i + step) % ring.length];
            result[isBack ? ring[i] : further] = row.charAt(isBack ? further : ring[i]);
        }
        return new String(result);
    }

    /** Four places, a ring of all: pieces that go around by turns as drawn. */
    private static TurnFace around(int turns) {
        TurnFace x = ringed(4, 1);
        x.turn(0, 'A', turns);
        return x;
    }

    // ---- promises 2 to 11: puzzles

    @Edge(promise = 2, says = "Types a place of a ring to be added.")
    static void placesInTheOrderTyped() {
        TurnFace x = bare(3);
        addRing(x, 0, 1, 2, 0, 1);
        x.turn(0, 'A', 1);
        due("2 to 0, to 1, to 2", pieces(x, 0, 3), "201");
        TurnFace y = bare(3);
        addRing(y, 0, 1, 1, 0, 2);
        y.turn(0, 'A', 1);
        due("1 to 0, to 2, to 1", pieces(y, 0, 3), "120");
        TurnFace z = around(1);
        z.typePlace(0);
        due("the puzzle stays until the ring is added", pieces(z, 0, 4), "3012");
    }

    @Edge(promise = 3, says = "Wipes the typed places.")
    static void placesNotSigns() {
        TurnFace x = worded("AB");
        typePlaces(x, 0, 1);
        x.wipePlaces();
        due("signs", x.length('q'), 2);
        due("rings", x.turn(0, 'A', 1), 3);
    }

    @Edge(promise = 4, says = "Adds a puzzle.")
    static void besideThoseThere() {
        TurnFace x = around(1);
        x.puzzle(5);
        due("the one there", pieces(x, 0, 4), "3012");
        due("its order", x.order(0), 4);
        due("the one added", pieces(x, 1, 5), "01234");
        due("it has no ring", x.order(1), 1);
    }

    @Edge(promise = 4, says = "Returns its number.")
    static void numbersInTheirOrder() {
        TurnFace x = new TurnFace();
        due("the first", x.puzzle(10), 0);
        fails("none", RANGE, () -> x.puzzle(2));
        due("the second", x.puzzle(3), 1);
        due("the third", x.puzzle(3), 2);
    }

    @Edge(promise = 6, says = "Colours a place.")
    static void onePlaceOfOnePuzzle() {
        TurnFace x = bare(3);
        x.puzzle(3);
        x.colour(0, 1, 7);
        int[] colours = {0, 7, 2};
        for (int place = 0; place < 3; place++) {
            due("place " + place, x.colour(0, place, 0), colours[place]);
            due("place " + place + " of another puzzle", x.colour(1, place, 0), place);
        }
    }

    @Edge(promise = 6, says = "Colours a place.")
    static void thePlaceNotThePieceThere() {
        TurnFace x = bare(3);
        x.swap(0, 0, 1);
        x.colour(0, 0, 1);
        due("0 and 1 swapped, 0 of the colour of 1", x.isSolved(0), true);
        due("the colour of 1", x.colour(0, 1, 1), 1);
        x.swap(0, 0, 2);
        due("0 and 2 swapped then", x.isSolved(0), false);
    }

    @Edge(promise = 6, says = "Returns the colour before.")
    static void oneBehindTheOther() {
        TurnFace x = bare(3);
        int before = 2;
        for (int colour = 9; colour >= 0; colour--) {
            due("ahead of " + colour, x.colour(0, 2, colour), before);
            before = colour;
        }
    }

    @Edge(promise = 7, says = "to turn it once brings what is at each of its places to the one that is so many further in the row")
    static void everyStepOfARow() {
        int[] ring = {6, 1, 8, 0, 3, 9, 5, 2};
        for (int step = 1; step < 8; step++) {
            TurnFace x = bare(10);
            addRing(x, 0, step, ring);
            x.swap(0, 4, 6);
            x.swap(0, 0, 9);
            String row = "9123654780";
            due("ahead of turns", pieces(x, 0, 10), row);
            for (int i = 0; i < 3; i++) {
                x.turn(0, 'A', 1);
                row = turned(row, ring, step, false);
                due("step " + step, pieces(x, 0, 10), row);
            }
        }
    }

    @Edge(promise = 7, says = "Turns a ring.")
    static void thatRingOfThatPuzzle() {
        TurnFace x = fourRings();
        x.puzzle(5);
        addRing(x, 1, 1, 0, 1, 2);
        x.turn(0, 'C', 1);
        due("C", pieces(x, 0, 5), "01324");
        due("another puzzle", pieces(x, 1, 5), "01234");
        x.turn(1, 'A', 2);
        due("A of another puzzle", pieces(x, 1, 5), "12034");
        due("C still", pieces(x, 0, 5), "01324");
    }

    @Edge(promise = 8, says = "a state tells which piece is where")
    static void piecesByTheirNumbers() {
        TurnFace x = bare(4);
        for (int place = 0; place < 4; place++) {
            x.colour(0, place, 9);
        }
        x.swap(0, 0, 3);
        int[] state = {3, 1, 2, 0};
        for (int place = 0; place < 4; place++) {
            due("place " + place + ", whatever its colour", x.pieceAt(0, place), state[place]);
        }
    }

    @Edge(promise = 8, says = "Returns the piece at a place.")
    static void pieceOfThatPuzzle() {
        TurnFace x = around(1);
        x.puzzle(4);
        due("turned", x.pieceAt(0, 0), 3);
        due("another one", x.pieceAt(1, 0), 0);
    }

    @Edge(promise = 9, says = "so states can be made that no turns make")
    static void swappedOutOfItsGroup() {
        TurnFace x = around(0);
        x.swap(0, 0, 1);
        due("one swap", x.isIn(0), false);
        due("one swap", pieces(x, 0, 4), "1023");
    }

    @Edge(promise = 11, says = "Returns whether a puzzle is solved.")
    static void thatPuzzleIsSolved() {
        TurnFace x = around(1);
        x.puzzle(4);
        due("turned", x.isSolved(0), false);
        due("another one", x.isSolved(1), true);
        x.turn(0, 'A', 3);
        due("turned on", x.isSolved(0), true);
    }

    // ---- promises 12 to 21: groups

    @Edge(promise = 12, says = "Returns the order of a puzzle's group.")
    static void orderWhateverItsState() {
        TurnFace x = around(1);
        due("turned", x.order(0), 4);
        x.swap(0, 0, 1);
        due("swapped", x.order(0), 4);
        x.colour(0, 0, 1);
        due("coloured", x.order(0), 4);
        addRing(x, 0, 1, 0, 1);
        due("one more ring", x.order(0), 24);
        x.puzzle(4);
        due("another one", x.order(1), 1);
    }

    @Edge(promise = 13, says = "Returns whether the state of a puzzle is in its group.")
    static void fourOfTwentyFour() {
        List<String> group = List.of("0123", "3012", "2301", "1230");
        for (int number = 0; number < 24; number++) {
            TurnFace all = four();
            all.toNumber(0, number);
            String row = pieces(all, 0, 4);
            due("state " + row, placed(row).isIn(0), group.contains(row));
        }
    }

    /** A ring of four places, with the pieces put as told. */
    private static TurnFace placed(String row) {
        TurnFace x = ringed(4, 1);
        for (int place = 0; place < 4; place++) {
            x.swap(0, x.pieceAt(0, place), row.charAt(place) - '0');
        }
        due("placed", pieces(x, 0, 4), row);
        return x;
    }

    @Edge(promise = 14, says = "Returns how many states the centre has.")
    static void centreWhateverItsState() {
        TurnFace x = ringed(6, 1);
        x.swap(0, 0, 1);
        due("a ring of six", x.centre(0), 6);
        addRing(x, 0, 1, 0, 3);
        due("a ring of six and a swap across", x.centre(0), 2);
        x.colour(0, 0, 3);
        due("whatever its colours", x.centre(0), 2);
    }

    @Edge(promise = 15, says = "Returns how many kinds of states there are.")
    static void kindsOfARing() {
        TurnFace x = ringed(6, 1);
        due("all unlike", x.kinds(0), 6);
        for (int place = 0; place < 6; place++) {
            x.colour(0, place, place % 3);
        }
        due("012012", x.kinds(0), 3);
        x.colour(0, 5, 0);
        due("012010", x.kinds(0), 6);
        x.turn(0, 'A', 1);
        due("012010, turned", x.kinds(0), 6);
    }

    @Edge(promise = 16, says = "Returns whether a puzzle is odd.")
    static void oddOrEven() {
        due("a ring of three", ringed(3, 1).isOdd(0), false);
        due("a ring of four", ringed(4, 1).isOdd(0), true);
        TurnFace x = ringed(3, 1);
        x.puzzle(4);
        addRing(x, 1, 1, 0, 1);
        due("another one is", x.isOdd(0), false);
        due("this one is", x.isOdd(1), true);
    }

    @Edge(promise = 18, says = "Returns how often the state of a puzzle, done again and again from the first state")
    static void doneAgainAndAgain() {
        TurnFace x = ringed(8, 1);
        for (int turns = 0; turns < 8; turns++) {
            String state = pieces(x, 0, 8);
            String row = state;
            int times = 1;
            for (; !row.equals("01234567"); times++) {
                StringBuilder next = new StringBuilder();
                for (int place = 0; place < 8; place++) {
                    next.append(row.charAt(state.charAt(place) - '0'));
                }
                row = next.toString();
            }
            due(turns + " turns", x.period(0), times);
            x.turn(0, 'A', 1);
        }
    }

    @Edge(promise = 19, says = "Returns the number of a puzzle's state.")
    static void numbersOfARing() {
        String[] rows = {"0123", "1230", "2301", "3012"};
        for (int number = 0; number < 4; number++) {
            TurnFace x = placed(rows[number]);
            due(rows[number], x.numberOf(0), number);
            due(rows[number] + " stays", pieces(x, 0, 4), rows[number]);
        }
    }

    @Edge(promise = 21, says = "Scrambles a puzzle.")
    static void thatPuzzleIsScrambled() {
        TurnFace x = around(0);
        x.puzzle(4);
        addRing(x, 1, 1, 0, 1, 2);
        long number = x.scramble(0, 4711);
        due("number", number, (4711L * 2654435761L ^ 4711L * 2654435761L / 32768) % 4);
        due("another one", pieces(x, 1, 4), "0123");
    }

    @Edge(promise = 21, says = "To scramble with a seed draws the number z modulo the order")
    static void drawnByEachOrder() {
        for (int places = 3; places <= 8; places++) {
            TurnFace x = ringed(places, 1);
            for (int seed = 1; seed < 1000; seed += 37) {
                long z = seed * 2654435761L;
                due("seed " + seed + " of " + places, x.scramble(0, seed), (z ^ z >> 15) % places);
            }
        }
    }

    @Edge(promise = 21, says = "The puzzle has this state then.")
    static void stateThatWasDrawn() {
        TurnFace x = four();
        for (int seed = 0; seed < 100; seed++) {
            long number = x.scramble(0, seed);
            due("seed " + seed, x.numberOf(0), number);
        }
    }

    @Edge(promise = 21, says = "without sign, all without the sign bit")
    static void neverBelowZero() {
        TurnFace x = ten();
        for (int seed = 99990; seed <= 99999; seed++) {
            long z = seed * 2654435761L;
            due("seed " + seed, x.scramble(0, seed), (z ^ z >>> 15) % 3628800);
        }
    }

    @Edge(promise = 21, says = "Returns the number of its state.")
    static void numberNotPlaces() {
        TurnFace x = bare(3);
        addRing(x, 0, 1, 0, 1);
        due("seed 1: 2654435761 and 81006, 2654354943 in exclusive or, so odd", x.scramble(0, 1), (2654435761L ^ 81006L) % 2);
        due("its state", x.numberOf(0), (2654435761L ^ 81006L) % 2);
    }

    // ---- promises 22 to 26 and 47: graphs

    @Edge(promise = 22, says = "The distance of a state of the group is the least count by which turns make it solved")
    static void twoWaysAround() {
        TurnFace x = bare(5);
        addRing(x, 0, 1, 0, 1, 2, 3, 4);
        addRing(x, 0, 2, 0, 1, 2, 3, 4);
        int[] distances = {0, 1, 1, 1, 1};
        for (int turns = 0; turns < 5; turns++) {
            due(turns + " turns, A or B", x.distance(0, 'q'), distances[turns]);
            x.turn(0, 'A', 1);
        }
    }

    @Edge(promise = 22, says = "Returns the distance of a puzzle's state.")
    static void distanceOfThatPuzzle() {
        TurnFace x = around(2);
        x.puzzle(4);
        due("half around, q", x.distance(0, 'q'), 2);
        due("half around, t", x.distance(0, 't'), 1);
        due("another one", x.distance(1, 'q'), 0);
        due("the state stays", pieces(x, 0, 4), "2301");
    }

    @Edge(promise = 23, says = "Returns a puzzle's number of God.")
    static void godOfThatPuzzle() {
        TurnFace x = ringed(7, 1);
        x.puzzle(7);
        addRing(x, 1, 1, 0, 1, 2);
        addRing(x, 1, 1, 3, 4, 5, 6);
        due("a ring of seven, q", x.god(0, 'q'), 3);
        due("a ring of seven, t", x.god(0, 't'), 1);
        due("rings of three and four, q", x.god(1, 'q'), 3);
        due("rings of three and four, t", x.god(1, 't'), 2);
    }

    @Edge(promise = 24, says = "Returns how many states have a distance.")
    static void twoRingsApart() {
        TurnFace x = bare(7);
        addRing(x, 0, 1, 0, 1, 2);
        addRing(x, 0, 1, 3, 4, 5, 6);
        int[][] many = {{1, 4, 5, 2, 0}, {1, 5, 6, 0, 0}};
        for (int distance = 0; distance < 5; distance++) {
            due("q, " + distance, x.many(0, 'q', distance), many[0][distance]);
            due("t, " + distance, x.many(0, 't', distance), many[1][distance]);
        }
    }

    @Edge(promise = 47, says = "Returns the mean of the distances of all states of a small puzzle.")
    static void meanOfTwoRingsApart() {
        TurnFace x = bare(7);
        addRing(x, 0, 1, 0, 1, 2);
        addRing(x, 0, 1, 3, 4, 5, 6);
        x.turn(0, 'A', 1);
        due("q", x.meanDistance(0, 'q'), 20.0 / 12.0);
        due("t", x.meanDistance(0, 't'), 17.0 / 12.0);
    }

    /** Rows of colours up to three turns around the solved one, each with how it is come to, the nearer ones first. */
    private static Map<String, String> rowsAround(String colours, int[][] rings, int[] steps) {
        Map<String, String> ways = new LinkedHashMap<>();
        ways.put(colours, "");
        List<String> last = List.of(colours);
        for (int depth = 1; depth <= 3; depth++) {
            List<String> next = new ArrayList<>();
            for (String row : last) {
                for (int arm = 0; arm < 2 * rings.length; arm++) {
                    String to = turned(row, rings[arm / 2], steps[arm / 2], arm % 2 == 1);
                    if (ways.putIfAbsent(to, ways.get(row) + arm) == null) {
                        next.add(to);
                    }
                }
            }
            last = next;
        }
        return ways;
    }

    /** From each of these rows: the turns of a shortest way, and for some of them the first such way. */
    private static void expectWays(String colours, int[][] rings, int[] steps) {
        Map<String, String> ways = rowsAround(colours, rings, steps);
        TurnFace x = null;
        int asked = 0;
        for (Map.Entry<String, String> entry : ways.entrySet()) {
            if (asked % 30 == 0) {
                x = coloured(colours, rings, steps);
            }
            x.reset(0);
            for (char arm : entry.getValue().toCharArray()) {
                x.turn(0, (char) ('A' + (arm - '0') / 2), arm % 2 == 0 ? 1 : -1);
            }
            due("from " + entry.getKey() + " to " + colours, x.search(0, 6), entry.getValue().length());
            if (asked % 5 == 0) {
                due("the way from " + entry.getKey() + " to " + colours, way(x, entry.getValue().length()), firstWay(entry.getKey(), ways, rings, steps));
            }
            asked++;
        }
    }

    private static TurnFace coloured(String colours, int[][] rings, int[] steps) {
        TurnFace x = bare(colours.length());
        for (int i = 0; i < rings.length; i++) {
            addRing(x, 0, steps[i], rings[i]);
        }
        for (int place = 0; place < colours.length(); place++) {
            x.colour(0, place, colours.charAt(place) - '0');
        }
        return x;
    }

    private static String way(TurnFace x, int turns) {
        StringBuilder way = new StringBuilder();
        for (int i = 0; i < turns; i++) {
            way.append(x.searchAt(0, 6, i));
        }
        return way.toString();
    }

    /** Turn by turn the first one, rings in their order and forward ahead of back, that comes nearer. */
    private static String firstWay(String row, Map<String, String> ways, int[][] rings, int[] steps) {
        StringBuilder way = new StringBuilder();
        String at = row;
        for (int left = ways.get(row).length(); left > 0; left--) {
            String to = at;
            int arm = -1;
            while (ways.getOrDefault(to, "none of three turns").length() != left - 1) {
                arm++;
                to = turned(at, rings[arm / 2], steps[arm / 2], arm % 2 == 1);
            }
            way.append(arm);
            at = to;
        }
        return way.toString();
    }

    @Edge(promise = 25, says = "Returns the turns of a shortest way in count 'q'")
    static void everyRowUpToThreeTurnsAway() {
        int[][] rings = {{0, 1, 2, 3, 4, 5, 6, 7}, {2, 9, 4, 8, 6, 1}, {9, 0, 5, 7, 3, 8, 2}, {1, 4, 9, 6, 0, 3, 8, 5}};
        int[] steps = {1, 1, 2, 3};
        for (String colours : new String[] {"0123456789", "9876543210", "0012345678", "0011223344", "0000011111", "0123401234", "5555555550", "8070605040", "1234567890", "3141592653"}) {
            expectWays(colours, rings, steps);
        }
    }

    @Edge(promise = 26, says = "Returns a turn of that way")
    static void everyRowAroundFewColours() {
        int[][] rings = {{0, 1, 2}, {2, 3, 4}, {5, 4}, {0, 5, 3, 1}};
        int[] steps = {1, 2, 1, 2};
        for (String colours : new String[] {"012345", "000111", "010101", "777777", "900000", "112233", "543210", "000001"}) {
            expectWays(colours, rings, steps);
        }
    }

    // ---- promises 27 to 32: words

    @Edge(promise = 27, says = "Types a sign.")
    static void oneBehindTheOthers() {
        TurnFace x = new TurnFace();
        x.type('A');
        x.type('B');
        x.type('2');
        due("ABB", "" + x.turnAt(0) + x.turnAt(1) + x.turnAt(2), "022");
        x.type('-');
        due("A and BB back", "" + x.turnAt(0) + x.turnAt(1) + x.turnAt(2), "033");
    }

    @Edge(promise = 27, says = "Returns how many the row has.")
    static void signsOfTheRow() {
        TurnFace x = new TurnFace();
        due("one", x.type('>'), 1);
        due("two", x.type('>'), 2);
        fails("none", RANGE, () -> x.type('E'));
        due("three", x.type('A'), 3);
    }

    @Edge(promise = 28, says = "Wipes the typed signs.")
    static void signsNotPlaces() {
        TurnFace x = worded("AB");
        typePlaces(x, 0, 1);
        x.wipe();
        due("places", x.wipePlaces(), 2);
    }

    /** All words of so many signs, made part by part as the grammar has them, with their turns from 0 to 7. */
    private static List<Map<String, String>> wordsUpTo(int most) {
        List<Map<String, String>> words = new ArrayList<>();
        List<Map<String, String>> parts = new ArrayList<>();
        words.add(Map.of("", ""));
        parts.add(Map.of());
        for (int signs = 1; signs <= most; signs++) {
            parts.add(partsOf(signs, words, parts));
            Map<String, String> rows = new HashMap<>();
            for (int first = 1; first <= signs; first++) {
                for (Map.Entry<String, String> part : parts.get(first).entrySet()) {
                    words.get(signs - first).forEach((row, turns) -> rows.put(part.getKey() + row, part.getValue() + turns));
                }
            }
            words.add(rows);
        }
        return words;
    }

    private static Map<String, String> partsOf(int signs, List<Map<String, String>> words, List<Map<String, String>> parts) {
        Map<String, String> rows = new HashMap<>();
        if (signs == 1) {
            rows.put("A", "0");
            rows.put("B", "2");
        }
        if (signs >= 2) {
            words.get(signs - 2).forEach((row, turns) -> rows.put("<" + row + ">", turns));
        }
        for (int first = 0; first <= signs - 3; first++) {
            for (Map.Entry<String, String> one : words.get(first).entrySet()) {
                words.get(signs - 3 - first).forEach((row, turns) -> rows.put("[" + one.getKey() + "|" + row + "]", one.getValue() + turns + back(one.getValue()) + back(turns)));
            }
        }
        for (Map.Entry<String, String> part : parts.get(signs - 1).entrySet()) {
            char last = part.getKey().charAt(part.getKey().length() - 1);
            if (last != '-') {
                rows.put(part.getKey() + "-", back(part.getValue()));
            }
            if (last != '-' && last != '2' && last != '3') {
                rows.put(part.getKey() + "2", part.getValue().repeat(2));
                rows.put(part.getKey() + "3", part.getValue().repeat(3));
            }
        }
        return rows;
    }

    private static String back(String turns) {
        StringBuilder row = new StringBuilder();
        for (char turn : turns.toCharArray()) {
            row.insert(0, (char) (turn ^ 1));
        }
        return row.toString();
    }

    @Edge(promise = 29, says = "Returns whether what is typed is a word that can be spelled out.")
    static void everyRowOfFiveSigns() {
        List<Map<String, String>> words = wordsUpTo(5);
        TurnFace x = null;
        int rows = 1;
        for (int signs = 0; signs <= 5; signs++) {
            for (int number = 0; number < rows; number++) {
                if (number % 70 == 0) {
                    x = new TurnFace();
                }
                StringBuilder row = new StringBuilder();
                for (int left = number, i = 0; i < signs; i++, left /= SIGNS.length()) {
                    row.append(SIGNS.charAt(left % SIGNS.length()));
                }
                typeAll(x, row.toString());
                due("'" + row + "' is a word", x.isWord(), words.get(signs).containsKey(row.toString()));
            }
            rows *= SIGNS.length();
        }
    }

    @Edge(promise = 31, says = "Returns a turn of the typed word.")
    static void everyTurnOfWordsOfFiveSigns() {
        for (Map<String, String> words : wordsUpTo(5)) {
            for (Map.Entry<String, String> word : words.entrySet()) {
                TurnFace x = new TurnFace();
                typeAll(x, word.getKey());
                StringBuilder turns = new StringBuilder();
                for (int i = 0; i < x.length('q'); i++) {
                    turns.append(x.turnAt(i));
                }
                due("the turns of '" + word.getKey() + "'", turns, word.getValue());
            }
        }
    }

    @Edge(promise = 30, says = "Returns how many turns the typed word has.")
    static void lengthsOfWordsOfFiveSigns() {
        for (Map<String, String> words : wordsUpTo(5)) {
            for (Map.Entry<String, String> word : words.entrySet()) {
                TurnFace x = new TurnFace();
                typeAll(x, word.getKey());
                int behind = 0;
                for (int i = 0; i < word.getValue().length(); i++) {
                    behind += i > 0 && (word.getValue().charAt(i) - '0') / 2 == (word.getValue().charAt(i - 1) - '0') / 2 ? 1 : 0;
                }
                due("'" + word.getKey() + "', q", x.length('q'), word.getValue().length());
                due("'" + word.getKey() + "', t", x.length('t'), word.getValue().length() - behind);
            }
        }
    }

    @Edge(promise = 31, says = "Spelled out, it has at most 120 turns, each a ring, forward or back.")
    static void aRingForwardOrBack() {
        TurnFace x = worded("<AB-CD->9-");
        int[] turns = {6, 5, 2, 1};
        for (int i = 0; i < 36; i++) {
            due("turn " + i, x.turnAt(i), turns[i % 4]);
        }
    }

    @Edge(promise = 32, says = "Does the typed word on a puzzle.")
    static void asItsTurnsDo() {
        String[] words = {"A", "B-", "AB", "<AB>3-", "[A|B]", "[A-|B]2", "A2B<AB->-", "[<AB>|A3B]-", "[[A|B]|B-A]"};
        for (String word : words) {
            TurnFace x = worded(word);
            TurnFace y = worded(word);
            for (int i = 0; i < y.length('q'); i++) {
                y.turn(0, (char) ('A' + y.turnAt(i) / 2), y.turnAt(i) % 2 == 0 ? 1 : -1);
            }
            due("'" + word + "'", x.apply(0), y.isSolved(0));
            due("'" + word + "'", pieces(x, 0, 4), pieces(y, 0, 4));
        }
    }

    @Edge(promise = 32, says = "Does the typed word on a puzzle.")
    static void onThatPuzzleFromItsState() {
        TurnFace x = worded("A");
        x.puzzle(4);
        x.turn(0, 'B', 1);
        x.apply(0);
        due("B, then A", pieces(x, 0, 4), "3012");
        due("another one", pieces(x, 1, 4), "0123");
    }

    // ---- promises 33 to 38: attempts

    @Edge(promise = 33, says = "Adds a competitor.")
    static void besideThoseCompeting() {
        TurnFace x = competing(1, 'b', 0, 0);
        times(x, 0, 0, 7);
        x.competitor(5);
        due("the one there", x.best(0, 0), 7);
        due("the one added", x.attempts(0, 1), 0);
    }

    @Edge(promise = 33, says = "Returns the number.")
    static void numbersOfCompetitors() {
        TurnFace x = new TurnFace();
        due("the first", x.competitor(5), 0);
        fails("none", RANGE, () -> x.competitor(6));
        due("the second, of the same region", x.competitor(5), 1);
    }

    @Edge(promise = 34, says = "Makes a round.")
    static void besideThoseMade() {
        TurnFace x = competing(1, '3', 0, 0);
        times(x, 0, 0, 7);
        x.round('5', 1, 0);
        due("the one there", x.best(0, 0), 7);
        due("the one made", x.attempts(1, 0), 0);
        due("its own limit", x.attempt(1, 0, 0, 2, 0, false), 0);
        due("not that of the one there", x.attempt(0, 0, 0, 2, 0, false), 2);
    }

    @Edge(promise = 34, says = "Returns its number.")
    static void numbersOfRoundsMade() {
        TurnFace x = new TurnFace();
        due("the first", x.round('m', 0, 0), 0);
        fails("none", RANGE, () -> x.round('x', 0, 0));
        due("the second", x.round('m', 0, 0), 1);
    }

    @Edge(promise = 34, says = "each of a format: '5' an average of five, '3' a mean of three, 'b' the best of three, 'f' fewest moves, best of three, 'm' several without sight, best of one")
    static void attemptsByFormat() {
        String formats = "53bfm";
        int[] most = {5, 3, 3, 3, 1};
        for (int i = 0; i < 5; i++) {
            TurnFace x = competing(1, formats.charAt(i), 0, 0);
            x.puzzle(3);
            int made = 0;
            while (made < 9 && tells(x, formats.charAt(i))) {
                made++;
            }
            due("attempts in '" + formats.charAt(i) + "'", made, most[i]);
            due("attempts told in '" + formats.charAt(i) + "'", x.attempts(0, 0), most[i]);
        }
    }

    private static boolean tells(TurnFace x, char format) {
        if (format == 'f') {
            return !answer(() -> x.moves(0, 0, 0)).startsWith("throws.");
        }
        return !answer(() -> format == 'm' ? x.several(0, 0, 2, 2, 9) : x.attempt(0, 0, 0, 9, 0, false)).startsWith("throws.");
    }

    @Edge(promise = 35, says = "Tells an attempt of a round '5', '3' or 'b'.")
    static void ofThatCompetitorInThatRound() {
        for (char format : "53b".toCharArray()) {
            TurnFace x = competing(2, format, 0, 0);
            x.round(format, 0, 0);
            x.attempt(1, 0, 0, 50, 0, false);
            due("'" + format + "'", x.best(1, 0), 50);
            due("'" + format + "', another one", x.attempts(1, 1), 0);
            due("'" + format + "', another round", x.attempts(0, 0), 0);
        }
    }

    @Edge(promise = 35, says = "An attempt has an inspection in hundredths")
    static void inspectionIsNoTime() {
        TurnFace x = competing(1, 'b', 1000, 0);
        due("1499 of inspection", x.attempt(0, 0, 1499, 1000, 0, false), 1000);
        due("it does not count up to the limit", x.best(0, 0), 1000);
    }

    @Edge(promise = 35, says = "and whether a piece had popped")
    static void poppedOrNot() {
        TurnFace x = competing(1, 'b', 0, 0);
        due("popped", x.attempt(0, 0, 0, 1000, 0, true), 0);
        due("not popped", x.attempt(0, 0, 0, 1000, 0, false), 1000);
    }

    @Edge(promise = 35, says = "Returns the result, 0 for none.")
    static void resultAsItCounts() {
        TurnFace x = competing(1, '3', 5000, 0);
        due("with its costs", x.attempt(0, 0, 1501, 1000, 1, false), 1400);
        due("none", x.attempt(0, 0, 0, 1000, 90, false), 0);
        due("none by the limit", x.attempt(0, 0, 0, 2601, 0, false), 0);
        due("the best", x.best(0, 0), 1400);
    }

    private static TurnFace fewest(String signs) {
        TurnFace x = worded(signs);
        x.competitor(0);
        x.competitor(0);
        x.round('f', 0, 0);
        x.round('f', 0, 0);
        return x;
    }

    @Edge(promise = 36, says = "Tells the typed word as an attempt of a round 'f'.")
    static void movesOfThatCompetitorInThatRound() {
        TurnFace x = fewest("A3");
        x.moves(1, 0, 0);
        due("told", x.attempts(1, 0), 1);
        due("another one", x.attempts(1, 1), 0);
        due("another round", x.attempts(0, 0), 0);
    }

    @Edge(promise = 36, says = "Fewest moves: an attempt is the word typed, told for a puzzle as it is, scrambled or not")
    static void asThatPuzzleIs() {
        TurnFace x = fewest("B-A-");
        x.puzzle(4);
        addRing(x, 1, 1, 0, 1, 2);
        addRing(x, 1, 1, 2, 3);
        x.turn(0, 'A', 1);
        x.turn(0, 'B', 1);
        due("scrambled so", x.moves(0, 0, 0), 2);
        due("not scrambled", x.moves(0, 0, 1), 0);
        typeAll(x, "<AB>4");
        due("not scrambled, once around", x.moves(0, 0, 1), 8);
    }

    @Edge(promise = 36, says = "its result is its turns in count 't', if these are not 0, it can be done on the puzzle, and solves its state as it is; none otherwise")
    static void noneOtherwise() {
        TurnFace x = fewest("A");
        due("it does not solve", x.moves(0, 0, 0), 0);
        typeAll(x, "C");
        due("it cannot be done", x.moves(0, 0, 0), 0);
        typeAll(x, "");
        due("it has no turns", x.moves(0, 0, 0), 0);
        fails("the best", MISSING, () -> x.best(0, 0));
    }

    @Edge(promise = 36, says = "Returns the result, 0 for none.")
    static void movesAsTheyCount() {
        TurnFace x = fewest("AAAB2");
        due("A thrice, B twice", x.moves(0, 0, 0), 2);
        due("the best", x.best(0, 0), 2);
    }

    @Edge(promise = 37, says = "Tells an attempt of a round 'm'.")
    static void severalOfThatCompetitorInThatRound() {
        TurnFace x = competing(2, 'm', 0, 0);
        x.round('m', 0, 0);
        x.several(1, 0, 5, 4, 9);
        due("told", x.best(1, 0), 3);
        due("another one", x.attempts(1, 1), 0);
        due("another round", x.attempts(0, 0), 0);
    }

    @Edge(promise = 37, says = "Several: an attempt tells how many were tried, 2 to 60, and solved, and the time; its points are solved ones less the others")
    static void everyManyTriedAndSolved() {
        for (int tried = 2; tried <= 60; tried++) {
            for (int solved = 0; solved <= tried; solved++) {
                int others = tried - solved;
                boolean isNone = solved < others || tried == 2 && solved == 1;
                due(solved + " of " + tried, competing(1, 'm', 0, 0).several(0, 0, tried, solved, 100), isNone ? -1 : solved - others);
            }
        }
    }

    @Edge(promise = 37, says = "Returns its points, -1 for none.")
    static void pointsOrNone() {
        TurnFace x = competing(2, 'm', 0, 0);
        due("points", x.several(0, 0, 9, 7, 100), 5);
        due("none", x.several(0, 1, 9, 4, 100), -1);
        fails("the best", MISSING, () -> x.best(0, 1));
    }

    @Edge(promise = 38, says = "Returns how many attempts a competitor has in a round.")
    static void withAResultOrNot() {
        TurnFace x = competing(2, '5', 0, 0);
        x.round('5', 0, 0);
        times(x, 0, 0, 5, -5, 5);
        times(x, 1, 0, -5);
        times(x, 1, 1, 5, 5);
        due("three, one without a result", x.attempts(0, 0), 3);
        due("one, without a result", x.attempts(1, 0), 1);
        due("none", x.attempts(0, 1), 0);
        due("two", x.attempts(1, 1), 2);
    }

    // ---- promises 39 to 45: results

    @Edge(promise = 39, says = "Returns the result.")
    static void bestWithItsCosts() {
        TurnFace x = competing(1, 'b', 0, 0);
        x.attempt(0, 0, 0, 1000, 5, false);
        x.attempt(0, 0, 0, 1150, 0, false);
        due("1150, ahead of 1000 and 200", x.best(0, 0), 1150);
    }

    @Edge(promise = 40, says = "Returns the average, or mean, of a competitor.")
    static void averageOrMean() {
        TurnFace x = competing(2, '5', 0, 0);
        x.round('3', 0, 0);
        times(x, 0, 0, 10, 20, 30, 40, 90);
        times(x, 0, 1, 11, 21, 31, 41, 91);
        times(x, 1, 0, 10, 20, 90);
        due("of five, without 10 and 90", x.average(0, 0), 30);
        due("of another one", x.average(0, 1), 31);
        due("of three", x.average(1, 0), 40);
    }

    @Edge(promise = 40, says = "Returns the hundredths.")
    static void hundredthsWithTheirCosts() {
        TurnFace x = competing(1, '3', 0, 0);
        x.attempt(0, 0, 1600, 1000, 350, false);
        x.attempt(0, 0, 0, 1000, 0, false);
        x.attempt(0, 0, 0, 1001, 0, false);
        due("1400, 1000 and 1001", x.average(0, 0), 1134);
    }

    @Edge(promise = 41, says = "Returns the rank of a competitor in a round.")
    static void rankInThatRound() {
        TurnFace x = competing(2, 'b', 0, 0);
        x.round('b', 0, 0);
        firstTimes(x, 0, 5, 6);
        firstTimes(x, 1, 6, 5);
        due("the first round", x.rank(0, 0) + " " + x.rank(0, 1), "1 2");
        due("the second round", x.rank(1, 0) + " " + x.rank(1, 1), "2 1");
    }

    @Edge(promise = 41, says = "Returns the rank, from 1.")
    static void ranksBehindThoseAlike() {
        TurnFace x = competing(5, 'b', 0, 0);
        firstTimes(x, 0, 8, 7, 8, 9, 7);
        due("7, 7, 8, 8, 9", "" + x.rank(0, 1) + x.rank(0, 4) + x.rank(0, 0) + x.rank(0, 2) + x.rank(0, 3), "11335");
        times(x, 0, 3, 6);
        due("6, 7, 7, 8, 8", "" + x.rank(0, 3) + x.rank(0, 1) + x.rank(0, 4) + x.rank(0, 0) + x.rank(0, 2), "12244");
    }

    @Edge(promise = 42, says = "Returns whether a competitor would advance if so many were told to.")
    static void wouldInThatRound() {
        TurnFace x = competing(4, 'b', 0, 0);
        x.round('b', 0, 0);
        firstTimes(x, 0, 5, 6, 7, 8);
        firstTimes(x, 1, 8, 7, 6, 5);
        expectAdvancing("two", x, 2, "yynn");
        due("the first, in the second round", x.advances(1, 0, 2), false);
        due("the last, in the second round", x.advances(1, 3, 2), true);
        expectAdvancing("three, asked behind two", x, 3, "yyyn");
        x.close(0, 0);
        expectAdvancing("two, of a closed round", x, 2, "yynn");
    }

    @Edge(promise = 43, says = "Closes a round on a day")
    static void thatRoundIsClosed() {
        TurnFace x = competing(2, '5', 0, 0);
        x.round('5', 0, 0);
        times(x, 0, 0, 9);
        due("one has an attempt", x.close(0, 5), 1);
        fails("no more in it", REFUSED, () -> x.attempt(0, 1, 0, 9, 0, false));
        due("another round is open", x.attempt(1, 0, 0, 9, 0, false), 9);
        due("its results stay", x.best(0, 0), 9);
    }

    @Edge(promise = 44, says = "Undoes a round that is closed; its results stay, but make no records")
    static void thatRoundIsUndone() {
        TurnFace x = competing(2, '5', 0, 0);
        x.round('5', 0, 0);
        times(x, 0, 0, 9);
        times(x, 1, 1, 8);
        x.close(0, 1);
        x.close(1, 2);
        due("one record goes", x.undo(0), 1);
        due("its record", x.isRecord(0, 0, false), false);
        due("its result", x.best(0, 0), 9);
        due("that of another round", x.isRecord(1, 1, false), true);
        due("another round can be undone", x.undo(1), 1);
    }

    @Edge(promise = 45, says = "Returns whether a competitor has a record by a round.")
    static void byThatRound() {
        TurnFace x = competing(2, '5', 0, 0);
        x.round('5', 0, 0);
        times(x, 0, 0, 9);
        times(x, 1, 0, 9);
        times(x, 1, 1, 8);
        x.close(0, 1);
        x.close(1, 2);
        due("the first one by the first round", x.isRecord(0, 0, false), true);
        due("the first one by the second round", x.isRecord(1, 0, false), false);
        due("the second one by the first round", x.isRecord(0, 1, false), false);
        due("the second one by the second round", x.isRecord(1, 1, false), true);
    }

    @Edge(promise = 45, says = "`isAverage`: whether an average is meant, otherwise a single result")
    static void averageOrSingle() {
        TurnFace x = competing(2, '5', 0, 0);
        times(x, 0, 0, 10, 30, 30, 30, 30);
        times(x, 0, 1, 20, 20, 20, 20, 20);
        x.close(0, 1);
        due("singles", x.isRecord(0, 0, false) + " " + x.isRecord(0, 1, false), "true false");
        due("averages", x.isRecord(0, 0, true) + " " + x.isRecord(0, 1, true), "false true");
    }

    // ---- promises 48 and 49: figures

    @Edge(promise = 48, says = "Returns a sum over all puzzles.")
    static void overAllPuzzles() {
        TurnFace x = around(1);
        long sum = sumBehind(sumBehind(sumBehind(sumBehind(sumBehind(7, 3), 0), 1), 2), 4);
        due("3 0 1 2, of order 4", x.checksum(), sum);
        x.puzzle(3);
        due("and 0 1 2, of order 1", x.checksum(), sumBehind(sumBehind(sumBehind(sumBehind(sum, 0), 1), 2), 1));
        x.colour(1, 0, 5);
        due("whatever its colours", x.checksum(), sumBehind(sumBehind(sumBehind(sumBehind(sum, 0), 1), 2), 1));
    }

    private static long sumBehind(long sum, long number) {
        return 31 * sum + number;
    }
}
