/** Promises 22 to 26 and 47, graphs: each boundary that a sentence names, by itself. */
public final class GraphEdgesTest extends Lab {
    public static void main(String[] args) throws IllegalAccessException {
        runEdges(GraphEdgesTest.class);
    }

    private interface Counted {
        Object of(TurnFace x, int puzzle, char count);
    }

    /** A ring of four makes four states, and this is none of them. */
    private static TurnFace outside() {
        TurnFace x = ringed(4, 1);
        x.swap(0, 0, 1);
        return x;
    }

    private static void needsPuzzle(Counted call) {
        refused("none", INDEX, TurnFace::new, x -> call.of(x, 0, 'q'));
        refused("1 of one", INDEX, Lab::four, x -> call.of(x, 1, 'q'));
        refused("-1", INDEX, Lab::four, x -> call.of(x, -1, 't'));
    }

    private static void needsCount(Counted call) {
        for (char count : "prsuQT0 ".toCharArray()) {
            refused("'" + count + "'", RANGE, Lab::four, x -> call.of(x, 0, count));
        }
        refused("the first sign", RANGE, Lab::four, x -> call.of(x, 0, (char) 0));
        refused("the last sign", RANGE, Lab::four, x -> call.of(x, 0, (char) 65535));
    }

    private static void needsSmall(Counted call) {
        refused("864, q", REFUSED, Lab::ofOrder864, x -> call.of(x, 0, 'q'));
        refused("864, t", REFUSED, Lab::ofOrder864, x -> call.of(x, 0, 't'));
        refused("3628800", REFUSED, Lab::ten, x -> call.of(x, 0, 'q'));
    }

    /** Puzzle ahead of count, count ahead of how small it is. */
    private static void throwsTheFirst(Counted call) {
        refused("no puzzle, no count", INDEX, Lab::four, x -> call.of(x, 1, 'x'));
        refused("no count, not small", RANGE, Lab::ofOrder864, x -> call.of(x, 0, 'x'));
    }

    // ---- promise 22: distance

    @Edge(promise = 22, says = "Throws `IndexOutOfBoundsException` if there is no such puzzle")
    static void distanceWithoutPuzzle() {
        needsPuzzle((x, p, c) -> x.distance(p, c));
    }

    @Edge(promise = 22, says = "Throws `IllegalArgumentException` if there is no such count")
    static void distanceWithoutCount() {
        needsCount((x, p, c) -> x.distance(p, c));
    }

    @Edge(promise = 22, says = "`count`: 'q' or 't'")
    static void distanceInEachCount() {
        TurnFace x = ringed(5, 1);
        x.turn(0, 'A', 2);
        due("q", x.distance(0, 'q'), 2);
        due("t", x.distance(0, 't'), 1);
    }

    @Edge(promise = 22, says = "Throws `UnsupportedOperationException` if it is not small")
    static void distanceOfASmallOne() {
        TurnFace x = ofOrder768();
        x.turn(0, 'C', 1);
        due("768", x.distance(0, 'q'), 1);
        needsSmall((y, p, c) -> y.distance(p, c));
    }

    @Edge(promise = 22, says = "Throws `NoSuchElementException` if the state is not in the group")
    static void distanceFromOutside() {
        refused("q", MISSING, GraphEdgesTest::outside, x -> x.distance(0, 'q'));
        refused("t", MISSING, GraphEdgesTest::outside, x -> x.distance(0, 't'));
        TurnFace x = outside();
        x.swap(0, 0, 1);
        due("inside again", x.distance(0, 'q'), 0);
    }

    @Edge(promise = 22, says = "Throws `NoSuchElementException` if the state is not in the group")
    static void solvedButOutside() {
        TurnFace x = outside();
        x.colour(0, 0, 1);
        due("solved", x.isSolved(0), true);
        fails("its distance", MISSING, () -> x.distance(0, 'q'));
    }

    @Edge(promise = 22, says = "In count 'q' each single turn of a ring, forward or back, is 1")
    static void aheadUpToHalfAround() {
        int[] distances = {0, 1, 2, 3, 4, 3, 2, 1, 0};
        for (int times = 0; times <= 8; times++) {
            TurnFace x = ringed(8, 1);
            x.turn(0, 'A', times);
            due("after " + times, x.distance(0, 'q'), distances[times]);
        }
    }

    @Edge(promise = 22, says = "in count 't' turns of one ring behind each other, however many, are 1")
    static void howeverMany() {
        for (int times = 0; times <= 8; times++) {
            TurnFace x = ringed(8, 1);
            x.turn(0, 'A', times);
            due("after " + times, x.distance(0, 't'), times % 8 == 0 ? 0 : 1);
        }
        TurnFace y = bare(7);
        addRing(y, 0, 1, 0, 1, 2, 3, 4);
        addRing(y, 0, 1, 5, 6);
        y.turn(0, 'A', 2);
        y.turn(0, 'B', 1);
        y.turn(0, 'A', 1);
        due("of two rings apart, t", y.distance(0, 't'), 2);
        due("of two rings apart, q", y.distance(0, 'q'), 3);
    }

    @Edge(promise = 22, says = "whatever solved state this is")
    static void anotherSolvedState() {
        TurnFace x = ringed(4, 1);
        x.turn(0, 'A', 2);
        due("unlike colours", x.distance(0, 'q'), 2);
        x.colour(0, 2, 0);
        x.colour(0, 3, 1);
        due("alike two and two", x.distance(0, 'q'), 0);
        x.turn(0, 'A', 1);
        due("one from either", x.distance(0, 'q'), 1);
        x.colour(0, 2, 2);
        x.turn(0, 'A', -1);
        due("unlike again", x.distance(0, 'q'), 2);
    }

    @Edge(promise = 22, says = "whatever solved state this is")
    static void askedAheadOfAColour() {
        TurnFace x = ringed(4, 1);
        x.turn(0, 'A', 2);
        due("unlike, t", x.distance(0, 't'), 1);
        x.colour(0, 2, 0);
        x.colour(0, 3, 1);
        due("alike two and two, t", x.distance(0, 't'), 0);
        x.colour(0, 3, 3);
        due("alike but for two, t", x.distance(0, 't'), 1);
    }

    @Edge(promise = 22, says = "If several exceptions apply, the one that is documented first is thrown.")
    static void distanceOfTwo() {
        throwsTheFirst((x, p, c) -> x.distance(p, c));
        refused("no count, not in the group", RANGE, GraphEdgesTest::outside, x -> x.distance(0, 'x'));
        Maker large = () -> {
            TurnFace x = ofOrder864();
            x.swap(0, 0, 1);
            return x;
        };
        due("864, outside", large.make().isIn(0), false);
        refused("not small, not in the group", REFUSED, large, x -> x.distance(0, 'q'));
    }

    // ---- promise 23: god

    @Edge(promise = 23, says = "Throws `IndexOutOfBoundsException` if there is no such puzzle")
    static void godWithoutPuzzle() {
        needsPuzzle((x, p, c) -> x.god(p, c));
    }

    @Edge(promise = 23, says = "Throws `IllegalArgumentException` if there is no such count")
    static void godWithoutCount() {
        needsCount((x, p, c) -> x.god(p, c));
    }

    @Edge(promise = 23, says = "Throws `UnsupportedOperationException` if it is not small")
    static void godOfASmallOne() {
        due("768 has one", ofOrder768().god(0, 'q') > 0, true);
        needsSmall((x, p, c) -> x.god(p, c));
    }

    @Edge(promise = 23, says = "the greatest of all states of the group is the puzzle's number of God")
    static void leastGod() {
        due("no ring, q", bare(10).god(0, 'q'), 0);
        due("no ring, t", bare(10).god(0, 't'), 0);
        TurnFace x = four();
        due("all unlike", x.god(0, 'q'), 6);
        for (int place = 0; place < 4; place++) {
            x.colour(0, place, 1);
        }
        due("all alike", x.god(0, 'q'), 0);
    }

    @Edge(promise = 23, says = "the greatest of all states of the group is the puzzle's number of God")
    static void godOfOneRing() {
        for (int places = 3; places <= 8; places++) {
            due(places + " places, q", ringed(places, 1).god(0, 'q'), places / 2);
            due(places + " places, t", ringed(places, 1).god(0, 't'), 1);
        }
        due("step 2 of 8", ringed(8, 2).god(0, 'q'), 2);
        due("step 4 of 8", ringed(8, 4).god(0, 'q'), 1);
    }

    @Edge(promise = 23, says = "the greatest of all states of the group is the puzzle's number of God")
    static void whateverStateItHas() {
        TurnFace x = outside();
        due("outside", x.god(0, 'q'), 2);
        x.toNumber(0, 3);
        due("inside", x.god(0, 'q'), 2);
    }

    @Edge(promise = 23, says = "the greatest of all states of the group is the puzzle's number of God")
    static void askedAheadOfARing() {
        TurnFace x = bare(4);
        int[][] gods = {{0, 0}, {1, 1}, {3, 3}, {6, 6}};
        for (int rings = 0; rings <= 3; rings++) {
            due(rings + " rings, q", x.god(0, 'q'), gods[rings][0]);
            due(rings + " rings, t", x.god(0, 't'), gods[rings][1]);
            if (rings < 3) {
                addRing(x, 0, 1, rings, rings + 1);
            }
        }
        addRing(x, 0, 2, 0, 1, 2, 3);
        due("four rings, q", x.god(0, 'q') < 6, true);
    }

    @Edge(promise = 23, says = "If several exceptions apply, the one that is documented first is thrown.")
    static void godOfTwo() {
        throwsTheFirst((x, p, c) -> x.god(p, c));
    }

    // ---- promise 24: many

    @Edge(promise = 24, says = "Throws `IndexOutOfBoundsException` if there is no such puzzle")
    static void manyWithoutPuzzle() {
        needsPuzzle((x, p, c) -> x.many(p, c, 0));
    }

    @Edge(promise = 24, says = "Throws `IllegalArgumentException` if there is no such count")
    static void manyWithoutCount() {
        needsCount((x, p, c) -> x.many(p, c, 0));
    }

    @Edge(promise = 24, says = "Throws `UnsupportedOperationException` if it is not small")
    static void manyOfASmallOne() {
        due("768", ofOrder768().many(0, 'q', 0), 1);
        needsSmall((x, p, c) -> x.many(p, c, 0));
    }

    @Edge(promise = 24, says = "Returns how many states have a distance.")
    static void outsideAllDistances() {
        due("-1", four().many(0, 'q', -1), 0);
        due("0", four().many(0, 'q', 0), 1);
        due("the greatest there is", ringed(8, 1).many(0, 'q', 4), 1);
        due("the one behind", ringed(8, 1).many(0, 'q', 5), 0);
        due("the least", four().many(0, 'q', LEAST), 0);
        due("the greatest", four().many(0, 't', MOST), 0);
        due("no ring, 0", bare(3).many(0, 't', 0), 1);
        due("no ring, 1", bare(3).many(0, 't', 1), 0);
    }

    @Edge(promise = 24, says = "Returns how many states have a distance.")
    static void allTogetherAreTheOrder() {
        TurnFace x = ofOrder768();
        for (char count : "qt".toCharArray()) {
            int all = 0;
            for (int distance = 0; distance <= x.god(0, count); distance++) {
                due("some have " + distance, x.many(0, count, distance) > 0, true);
                all += x.many(0, count, distance);
            }
            due("all, " + count, all, 768);
        }
    }

    @Edge(promise = 24, says = "whatever solved state this is")
    static void manySolvedOnes() {
        TurnFace x = four();
        x.colour(0, 1, 0);
        due("two alike", x.many(0, 'q', 0), 2);
        x.colour(0, 2, 0);
        due("three alike", x.many(0, 'q', 0), 6);
        x.colour(0, 3, 0);
        due("all alike", x.many(0, 'q', 0), 24);
    }

    @Edge(promise = 24, says = "If several exceptions apply, the one that is documented first is thrown.")
    static void manyOfTwo() {
        throwsTheFirst((x, p, c) -> x.many(p, c, -1));
    }

    // ---- promise 25: search

    @Edge(promise = 25, says = "Throws `IndexOutOfBoundsException` if there is no such puzzle")
    static void searchWithoutPuzzle() {
        needsPuzzle((x, p, c) -> x.search(p, 6));
    }

    @Edge(promise = 25, says = "`most`: how many at most, 0 to 6")
    static void fewestSearched() {
        due("0, solved", four().search(0, 0), 0);
        TurnFace x = four();
        x.turn(0, 'B', 1);
        due("0, one away", x.search(0, 0), -1);
        due("1, one away", x.search(0, 1), 1);
        refused("-1", RANGE, Lab::four, y -> y.search(0, -1));
        refused("the least", RANGE, Lab::four, y -> y.search(0, LEAST));
    }

    @Edge(promise = 25, says = "Throws `IllegalArgumentException` if a number is out of range")
    static void mostSearched() {
        due("6", four().search(0, 6), 0);
        refused("7", RANGE, Lab::four, x -> x.search(0, 7));
        refused("the greatest", RANGE, Lab::four, x -> x.search(0, MOST));
    }

    /** So many turns away: one of A, one of B, and so on. No way back is shorter, as A and B share but one place of ten. */
    private static TurnFace away(int turns) {
        TurnFace x = ringed(10, 1);
        addRing(x, 0, 1, 7, 8, 9);
        for (int i = 0; i < turns; i++) {
            x.turn(0, i % 2 == 0 ? 'A' : 'B', 1);
        }
        return x;
    }

    @Edge(promise = 25, says = "Returns how many turns, -1 if there is no way of so many.")
    static void justSoMany() {
        for (int turns = 0; turns <= 6; turns++) {
            due(turns + " turns by as many", away(turns).search(0, turns), turns);
            due(turns + " turns by six", away(turns).search(0, 6), turns);
            if (turns > 0) {
                due(turns + " turns by one less", away(turns).search(0, turns - 1), -1);
            }
        }
        due("seven turns by six", away(7).search(0, 6), -1);
    }

    @Edge(promise = 25, says = "to a solved state")
    static void noWayAtAll() {
        due("no ring, solved", bare(3).search(0, 6), 0);
        TurnFace x = bare(3);
        x.swap(0, 0, 1);
        due("no ring, not solved", x.search(0, 6), -1);
        TurnFace y = outside();
        due("outside", y.search(0, 6), -1);
        y.colour(0, 0, 1);
        due("outside, yet solved", y.search(0, 0), 0);
        y.turn(0, 'A', 1);
        due("outside, one away", y.search(0, 6), 1);
    }

    @Edge(promise = 25, says = "to a solved state")
    static void nearerByColours() {
        TurnFace x = ringed(8, 1);
        x.turn(0, 'A', 3);
        due("unlike", x.search(0, 6), 3);
        for (int place = 0; place < 8; place++) {
            x.colour(0, place, place % 2);
        }
        due("every other alike", x.search(0, 6), 1);
        for (int place = 0; place < 8; place++) {
            x.colour(0, place, 0);
        }
        due("all alike", x.search(0, 6), 0);
    }

    @Edge(promise = 25, says = "If several exceptions apply, the one that is documented first is thrown.")
    static void noPuzzleAndTooMany() {
        refused("no puzzle, 7", INDEX, Lab::four, x -> x.search(1, 7));
        refused("no puzzle, -1", INDEX, Lab::four, x -> x.search(-1, -1));
    }

    @Edge(promise = 25, says = "searched deeper and deeper")
    static void notOnlySmallOnes() {
        TurnFace x = ten();
        x.turn(0, 'A', 3);
        due("3628800", x.search(0, 6), 3);
        due("864", ofOrder864().search(0, 6), 0);
    }

    // ---- promise 26: searchAt

    @Edge(promise = 26, says = "Throws `IndexOutOfBoundsException` if there is no such puzzle")
    static void searchAtWithoutPuzzle() {
        needsPuzzle((x, p, c) -> x.searchAt(p, 6, 0));
    }

    private static TurnFace turnedOnce() {
        TurnFace x = four();
        x.turn(0, 'A', 1);
        return x;
    }

    @Edge(promise = 26, says = "`most`: how many at most, 0 to 6")
    static void searchedAtFewest() {
        due("1", turnedOnce().searchAt(0, 1, 0), 1);
        refused("-1", RANGE, GraphEdgesTest::turnedOnce, x -> x.searchAt(0, -1, 0));
        refused("the least", RANGE, GraphEdgesTest::turnedOnce, x -> x.searchAt(0, LEAST, 0));
    }

    @Edge(promise = 26, says = "Throws `IllegalArgumentException` if a number is out of range")
    static void searchedAtMost() {
        due("6", turnedOnce().searchAt(0, 6, 0), 1);
        refused("7", RANGE, GraphEdgesTest::turnedOnce, x -> x.searchAt(0, 7, 0));
        refused("the greatest", RANGE, GraphEdgesTest::turnedOnce, x -> x.searchAt(0, MOST, 0));
    }

    @Edge(promise = 26, says = "Throws `NoSuchElementException` if there is no such turn, or way")
    static void noSuchTurn() {
        refused("-1", MISSING, GraphEdgesTest::turnedOnce, x -> x.searchAt(0, 6, -1));
        refused("1 of one", MISSING, GraphEdgesTest::turnedOnce, x -> x.searchAt(0, 6, 1));
        refused("6 of six", MISSING, () -> away(6), x -> x.searchAt(0, 6, 6));
        due("5 of six", away(6).searchAt(0, 6, 5), 1);
        refused("the greatest", MISSING, GraphEdgesTest::turnedOnce, x -> x.searchAt(0, 6, MOST));
        refused("the least", MISSING, GraphEdgesTest::turnedOnce, x -> x.searchAt(0, 6, LEAST));
    }

    @Edge(promise = 26, says = "Throws `NoSuchElementException` if there is no such turn, or way")
    static void noSuchWay() {
        refused("solved, so without a turn", MISSING, Lab::four, x -> x.searchAt(0, 6, 0));
        refused("one away by 0", MISSING, GraphEdgesTest::turnedOnce, x -> x.searchAt(0, 0, 0));
        refused("seven away", MISSING, () -> away(7), x -> x.searchAt(0, 6, 0));
        refused("outside", MISSING, GraphEdgesTest::outside, x -> x.searchAt(0, 6, 0));
    }

    @Edge(promise = 26, says = "rings in their order, forward ahead of back")
    static void forwardAheadOfBack() {
        TurnFace x = ringed(4, 1);
        x.turn(0, 'A', 2);
        due("half around, first", x.searchAt(0, 6, 0), 0);
        due("half around, second", x.searchAt(0, 6, 1), 0);
        TurnFace y = fourRings();
        y.turn(0, 'D', 1);
        due("a swap either way", y.searchAt(0, 6, 0), 6);
    }

    @Edge(promise = 26, says = "the first one of several such by its turns, one by one")
    static void ringsInTheirOrder() {
        TurnFace x = fourRings();
        x.turn(0, 'D', 1);
        x.turn(0, 'A', 1);
        due("apart, first", x.searchAt(0, 6, 0), 0);
        due("apart, second", x.searchAt(0, 6, 1), 6);
        TurnFace y = fourRings();
        for (char ring : "ABA".toCharArray()) {
            y.turn(0, ring, 1);
        }
        int[] way = {0, 2, 0};
        for (int i = 0; i < 3; i++) {
            due("ABA or BAB, " + i, y.searchAt(0, 6, i), way[i]);
        }
    }

    /** The ways were found by trying all rows of turns, shorter ones first. */
    @Edge(promise = 26, says = "of several such by its turns, one by one, rings in their order, forward ahead of back")
    static void sixTurnsOfFourRings() {
        String[][] told = {
            {"ABCDAB", "317531"}, {"aBcDaB", "307430"}, {"DDCCBB", "335577"}, {"dcbaDC", "065562"}, {"ABABAB", "313131"},
            {"abCDab", "207520"}, {"CdCdCd", "474747"}, {"AADDaa", "007711"}, {"BDACbd", "625173"}, {"DaBcDa", "074307"},
            {"CBcbCB", "352435"}, {"bDbDbD", "727272"}, {"aCaCaC", "505050"}, {"AAABBB", "222111"}, {"cccddd", "666444"},
        };
        TurnFace x = ringed(10, 1);
        addRing(x, 0, 1, 2, 9, 4, 8, 6, 1);
        addRing(x, 0, 1, 9, 0, 5, 7, 3, 8, 2);
        addRing(x, 0, 3, 1, 4, 9, 6, 0, 3, 8, 5);
        for (String[] row : told) {
            x.reset(0);
            for (char turn : row[0].toCharArray()) {
                x.turn(0, Character.toUpperCase(turn), Character.isUpperCase(turn) ? 1 : -1);
            }
            due(row[0] + " by five", x.search(0, 5), -1);
            due(row[0] + " by six", x.search(0, 6), 6);
            StringBuilder way = new StringBuilder();
            for (int i = 0; i < 6; i++) {
                way.append(x.searchAt(0, 6, i));
            }
            due("the way of " + row[0], way, row[1]);
        }
    }

    @Edge(promise = 26, says = "Returns 2 times the number of the ring, from 0, and 1 more for back.")
    static void leastAndGreatestTurn() {
        TurnFace x = bare(10);
        addRing(x, 0, 1, 0, 1, 2);
        addRing(x, 0, 1, 3, 4);
        addRing(x, 0, 1, 5, 6);
        addRing(x, 0, 1, 7, 8, 9);
        x.turn(0, 'A', -1);
        due("A forward", x.searchAt(0, 6, 0), 0);
        x.turn(0, 'A', -1);
        due("A back", x.searchAt(0, 6, 0), 1);
        x.turn(0, 'A', -1);
        x.turn(0, 'D', -1);
        due("D forward", x.searchAt(0, 6, 0), 6);
        x.turn(0, 'D', -1);
        due("D back", x.searchAt(0, 6, 0), 7);
    }

    @Edge(promise = 26, says = "If several exceptions apply, the one that is documented first is thrown.")
    static void searchAtOfTwo() {
        refused("no puzzle, 7", INDEX, Lab::four, x -> x.searchAt(1, 7, 0));
        refused("no puzzle, no turn", INDEX, Lab::four, x -> x.searchAt(1, 6, -1));
        refused("7, no turn", RANGE, Lab::four, x -> x.searchAt(0, 7, -1));
        refused("-1, no way", RANGE, GraphEdgesTest::outside, x -> x.searchAt(0, -1, 0));
    }

    // ---- promise 47: meanDistance

    @Edge(promise = 47, says = "Throws `IndexOutOfBoundsException` if there is no such puzzle")
    static void meanWithoutPuzzle() {
        needsPuzzle((x, p, c) -> x.meanDistance(p, c));
    }

    @Edge(promise = 47, says = "Throws `IllegalArgumentException` if there is no such count")
    static void meanWithoutCount() {
        needsCount((x, p, c) -> x.meanDistance(p, c));
    }

    @Edge(promise = 47, says = "Throws `UnsupportedOperationException` if it is not small")
    static void meanOfASmallOne() {
        due("768", ofOrder768().meanDistance(0, 'q') > 1, true);
        needsSmall((x, p, c) -> x.meanDistance(p, c));
    }

    @Edge(promise = 47, says = "Returns the sum divided by the order, both converted to double.")
    static void meanOfOneAndOfMany() {
        due("no ring", bare(3).meanDistance(0, 'q'), 0.0);
        due("two states", ringed(8, 4).meanDistance(0, 'q'), 0.5);
        due("three states", ringed(3, 1).meanDistance(0, 't'), 2.0 / 3.0);
        due("eight states, q", ringed(8, 1).meanDistance(0, 'q'), 16.0 / 8.0);
        due("eight states, t", ringed(8, 1).meanDistance(0, 't'), 7.0 / 8.0);
        TurnFace x = four();
        for (int place = 0; place < 4; place++) {
            x.colour(0, place, 4);
        }
        due("all alike", x.meanDistance(0, 'q'), 0.0);
    }

    @Edge(promise = 47, says = "Returns the sum divided by the order, both converted to double.")
    static void sumOfAllDistances() {
        TurnFace x = ofOrder768();
        for (char count : "qt".toCharArray()) {
            long sum = 0;
            for (int distance = 1; distance <= x.god(0, count); distance++) {
                sum += (long) distance * x.many(0, count, distance);
            }
            due("768, " + count, x.meanDistance(0, count), (double) sum / 768.0);
        }
    }

    @Edge(promise = 47, says = "If several exceptions apply, the one that is documented first is thrown.")
    static void meanOfTwo() {
        throwsTheFirst((x, p, c) -> x.meanDistance(p, c));
    }
}
