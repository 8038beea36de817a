/** Promises 1 to 11, puzzles: each boundary that a sentence names, by itself. */
public final class PuzzleEdgesTest extends Lab {
    public static void main(String[] args) throws IllegalAccessException {
        runEdges(PuzzleEdgesTest.class);
    }

    // ---- promise 1: a new object

    @Edge(promise = 1, says = "Creates a laboratory without puzzles and rounds.")
    static void noPuzzleAtFirst() {
        refused("the first puzzle", INDEX, TurnFace::new, x -> x.order(0));
        due("the sum over none", new TurnFace().checksum(), 7);
        due("the first number", new TurnFace().puzzle(3), 0);
    }

    @Edge(promise = 1, says = "Creates a laboratory without puzzles and rounds.")
    static void noRoundAtFirst() {
        TurnFace x = new TurnFace();
        x.competitor(0);
        fails("the first round", INDEX, () -> x.attempts(0, 0));
        due("the first number", x.round('5', 0, 0), 0);
        due("the first round, made", x.attempts(0, 0), 0);
    }

    @Edge(promise = 1, says = "Creates a laboratory without puzzles and rounds.")
    static void noCompetitorAtFirst() {
        TurnFace x = new TurnFace();
        x.round('5', 0, 0);
        fails("the first competitor", INDEX, () -> x.attempts(0, 0));
        due("the first number", x.competitor(0), 0);
    }

    @Edge(promise = 1, says = "Creates a laboratory without puzzles and rounds.")
    static void nothingTypedAtFirst() {
        due("places", new TurnFace().wipePlaces(), 0);
        due("signs", new TurnFace().wipe(), 0);
    }

    @Edge(promise = 1, says = "An object is used for at most 512 calls after it has been made; what later calls answer is free.")
    static void lastCallOf512() {
        TurnFace x = ringed(3, 1);
        for (int call = 6; call <= 511; call++) {
            x.turn(0, 'A', 1);
        }
        due("the 512th", x.pieceAt(0, 1), 2);
    }

    // ---- promise 2: typePlace

    @Edge(promise = 2, says = "`place`: 0 to 9")
    static void lowestPlace() {
        due("0", new TurnFace().typePlace(0), 1);
        refused("-1", RANGE, TurnFace::new, x -> x.typePlace(-1));
        refused("the least", RANGE, TurnFace::new, x -> x.typePlace(LEAST));
    }

    @Edge(promise = 2, says = "Throws `IllegalArgumentException` if a number is out of range")
    static void highestPlace() {
        due("9", new TurnFace().typePlace(9), 1);
        refused("10", RANGE, TurnFace::new, x -> x.typePlace(10));
        refused("the greatest", RANGE, TurnFace::new, x -> x.typePlace(MOST));
    }

    @Edge(promise = 2, says = "Returns how many are typed.")
    static void oneToEight() {
        TurnFace x = new TurnFace();
        for (int i = 1; i <= 8; i++) {
            due("place " + i, x.typePlace(9 - i), i);
        }
    }

    @Edge(promise = 2, says = "Throws `UnsupportedOperationException` if it is typed")
    static void typedPlace() {
        refused("the first of three", REFUSED, () -> typed(4, 0, 7), x -> x.typePlace(4));
        refused("the second of three", REFUSED, () -> typed(4, 0, 7), x -> x.typePlace(0));
        refused("the last of three", REFUSED, () -> typed(4, 0, 7), x -> x.typePlace(7));
        due("another one", typed(4, 0, 7).typePlace(5), 4);
    }

    @Edge(promise = 2, says = "Throws `IllegalStateException` if there are 8")
    static void ninthPlace() {
        due("the eighth", typed(0, 1, 2, 3, 4, 5, 6).typePlace(7), 8);
        refused("the ninth", FULL, () -> typed(0, 1, 2, 3, 4, 5, 6, 7), x -> x.typePlace(8));
    }

    @Edge(promise = 2, says = "Throws `IllegalStateException` if there are 8")
    static void roomAfterEight() {
        TurnFace x = typed(0, 1, 2, 3, 4, 5, 6, 7);
        x.wipePlaces();
        due("after a wipe", x.typePlace(7), 1);
        TurnFace y = ringed(8, 1);
        due("after a ring", y.typePlace(7), 1);
    }

    @Edge(promise = 2, says = "If several exceptions apply, the one that is documented first is thrown.")
    static void whichOfTwo() {
        refused("out of range, and full", RANGE, () -> typed(0, 1, 2, 3, 4, 5, 6, 7), x -> x.typePlace(10));
        refused("typed, and full", REFUSED, () -> typed(0, 1, 2, 3, 4, 5, 6, 7), x -> x.typePlace(7));
    }

    // ---- promise 3: wipePlaces

    @Edge(promise = 3, says = "Returns how many there were.")
    static void wipesNoneOneAndEight() {
        due("none", new TurnFace().wipePlaces(), 0);
        due("one", typed(9).wipePlaces(), 1);
        due("eight", typed(0, 1, 2, 3, 4, 5, 6, 7).wipePlaces(), 8);
    }

    @Edge(promise = 3, says = "Wipes the typed places.")
    static void wipedPlacesAreGone() {
        TurnFace x = typed(3, 5);
        x.wipePlaces();
        due("wiped again", x.wipePlaces(), 0);
        due("typed again", x.typePlace(3), 1);
    }

    // ---- promise 4: puzzle

    @Edge(promise = 4, says = "each with 3 to 10 places, from 0 on")
    static void fewestPlaces() {
        refused("2", RANGE, TurnFace::new, x -> x.puzzle(2));
        refused("0", RANGE, TurnFace::new, x -> x.puzzle(0));
        refused("the least", RANGE, TurnFace::new, x -> x.puzzle(LEAST));
        due("3", pieces(bare(3), 0, 3), "012");
        refused("the fourth place of 3", INDEX, () -> bare(3), x -> x.pieceAt(0, 3));
    }

    @Edge(promise = 4, says = "Throws `IllegalArgumentException` if a number is out of range")
    static void mostPlaces() {
        refused("11", RANGE, TurnFace::new, x -> x.puzzle(11));
        refused("the greatest", RANGE, TurnFace::new, x -> x.puzzle(MOST));
        due("10", pieces(bare(10), 0, 10), "0123456789");
        refused("the eleventh place of 10", INDEX, () -> bare(10), x -> x.pieceAt(0, 10));
    }

    @Edge(promise = 4, says = "At most 4 puzzles have numbers from 0 on")
    static void numbersOfPuzzles() {
        TurnFace x = new TurnFace();
        for (int i = 0; i < 4; i++) {
            due("puzzle " + i, x.puzzle(3 + i), i);
            due("its number", x.pieceAt(i, 2 + i), 2 + i);
        }
    }

    private static TurnFace fourPuzzles() {
        TurnFace x = new TurnFace();
        for (int i = 0; i < 4; i++) {
            x.puzzle(3);
        }
        return x;
    }

    @Edge(promise = 4, says = "Throws `IllegalStateException` if there are 4")
    static void fifthPuzzle() {
        refused("the fifth", FULL, PuzzleEdgesTest::fourPuzzles, x -> x.puzzle(3));
        refused("a fifth of ten places", FULL, PuzzleEdgesTest::fourPuzzles, x -> x.puzzle(10));
    }

    @Edge(promise = 4, says = "If several exceptions apply, the one that is documented first is thrown.")
    static void outOfRangeAndFull() {
        refused("2, and full", RANGE, PuzzleEdgesTest::fourPuzzles, x -> x.puzzle(2));
        refused("11, and full", RANGE, PuzzleEdgesTest::fourPuzzles, x -> x.puzzle(11));
    }

    // ---- promise 5: ring

    private static TurnFace bareAndTyped(int puzzlePlaces, int... typed) {
        TurnFace x = bare(puzzlePlaces);
        typePlaces(x, typed);
        return x;
    }

    @Edge(promise = 5, says = "Throws `IndexOutOfBoundsException` if there is no such puzzle")
    static void ringWithoutPuzzle() {
        refused("-1", INDEX, () -> bareAndTyped(3, 0, 1), x -> x.ring(-1, 1));
        refused("1 of one", INDEX, () -> bareAndTyped(3, 0, 1), x -> x.ring(1, 1));
        refused("4 of four", INDEX, PuzzleEdgesTest::fourPuzzles, x -> x.ring(4, 1));
        refused("the greatest", INDEX, () -> bareAndTyped(3, 0, 1), x -> x.ring(MOST, 1));
        refused("the least", INDEX, () -> bareAndTyped(3, 0, 1), x -> x.ring(LEAST, 1));
    }

    @Edge(promise = 5, says = "Throws `IllegalArgumentException` if fewer than 2 places are typed, one is no place of it, or the step is out of range")
    static void tooFewPlaces() {
        refused("none typed", RANGE, () -> bare(3), x -> x.ring(0, 1));
        refused("none typed, step 0", RANGE, () -> bare(3), x -> x.ring(0, 0));
        refused("one typed", RANGE, () -> bareAndTyped(3, 0), x -> x.ring(0, 1));
        due("two typed", bareAndTyped(3, 0, 1).ring(0, 1), 1);
    }

    @Edge(promise = 5, says = "A ring is a row of 2 to 8 unlike places")
    static void longestRing() {
        TurnFace x = bareAndTyped(8, 7, 6, 5, 4, 3, 2, 1, 0);
        due("eight typed", x.ring(0, 1), 1);
        due("eight turned", x.turn(0, 'A', 1), 8);
        due("eight turned", pieces(x, 0, 8), "12345670");
    }

    @Edge(promise = 5, says = "one is no place of it")
    static void noPlaceOfIt() {
        due("the last place", bareAndTyped(4, 3, 0).ring(0, 1), 1);
        refused("the one behind, typed last", RANGE, () -> bareAndTyped(4, 0, 4), x -> x.ring(0, 1));
        refused("the one behind, typed first", RANGE, () -> bareAndTyped(4, 4, 0, 1), x -> x.ring(0, 1));
        refused("the one behind, between", RANGE, () -> bareAndTyped(4, 0, 4, 1), x -> x.ring(0, 1));
        refused("9 of nine", RANGE, () -> bareAndTyped(9, 0, 9), x -> x.ring(0, 1));
        due("9 of ten", bareAndTyped(10, 0, 9).ring(0, 1), 1);
    }

    @Edge(promise = 5, says = "one is no place of it")
    static void wipedPlacesDoNotCount() {
        TurnFace x = bareAndTyped(3, 0, 1, 9);
        x.wipePlaces();
        typePlaces(x, 0, 1);
        due("behind a wiped 9", x.ring(0, 1), 1);
        TurnFace y = bareAndTyped(10, 0, 9);
        y.ring(0, 1);
        y.puzzle(3);
        typePlaces(y, 0);
        fails("one typed, one of the ring ahead", RANGE, () -> y.ring(1, 1));
    }

    @Edge(promise = 5, says = "a step, 1 to one less than its places")
    static void leastStep() {
        refused("0", RANGE, () -> bareAndTyped(4, 0, 1, 2), x -> x.ring(0, 0));
        refused("-1", RANGE, () -> bareAndTyped(4, 0, 1, 2), x -> x.ring(0, -1));
        refused("the least", RANGE, () -> bareAndTyped(4, 0, 1, 2), x -> x.ring(0, LEAST));
        due("1", bareAndTyped(4, 0, 1, 2).ring(0, 1), 1);
    }

    @Edge(promise = 5, says = "the step is out of range")
    static void greatestStep() {
        due("2 of 3", bareAndTyped(4, 0, 1, 2).ring(0, 2), 1);
        refused("3 of 3", RANGE, () -> bareAndTyped(4, 0, 1, 2), x -> x.ring(0, 3));
        refused("2 of 2", RANGE, () -> bareAndTyped(4, 0, 1), x -> x.ring(0, 2));
        due("7 of 8", bareAndTyped(8, 0, 1, 2, 3, 4, 5, 6, 7).ring(0, 7), 1);
        refused("8 of 8", RANGE, () -> bareAndTyped(8, 0, 1, 2, 3, 4, 5, 6, 7), x -> x.ring(0, 8));
        refused("the greatest", RANGE, () -> bareAndTyped(4, 0, 1, 2), x -> x.ring(0, MOST));
    }

    @Edge(promise = 5, says = "Adds a ring of the typed places, which are wiped then")
    static void typedPlacesAreWiped() {
        TurnFace x = bareAndTyped(4, 2, 0, 1);
        x.ring(0, 1);
        due("left", x.wipePlaces(), 0);
        TurnFace y = bareAndTyped(4, 2, 0, 1);
        fails("refused", RANGE, () -> y.ring(0, 3));
        due("left where refused", y.wipePlaces(), 3);
    }

    @Edge(promise = 5, says = "all pieces are at their own places")
    static void piecesGoHome() {
        TurnFace x = four();
        x.turn(0, 'A', 1);
        x.swap(0, 3, 1);
        addRing(x, 0, 1, 0, 3);
        due("after a turn and a swap", pieces(x, 0, 4), "0123");
        TurnFace y = four();
        y.puzzle(3);
        y.swap(1, 0, 1);
        addRing(y, 0, 1, 0, 3);
        due("those of another puzzle stay", pieces(y, 1, 3), "102");
    }

    @Edge(promise = 5, says = "colours stay")
    static void coloursStay() {
        TurnFace x = bare(3);
        x.colour(0, 2, 9);
        x.colour(0, 0, 0);
        addRing(x, 0, 1, 0, 1);
        due("changed", x.colour(0, 2, 9), 9);
        due("its own", x.colour(0, 0, 0), 0);
    }

    @Edge(promise = 5, says = "Returns how many rings it has.")
    static void oneToFourRings() {
        TurnFace x = bare(4);
        for (int i = 1; i <= 4; i++) {
            typePlaces(x, 0, 1);
            due("ring " + i, x.ring(0, 1), i);
        }
        x.puzzle(3);
        typePlaces(x, 0, 1);
        due("of another puzzle", x.ring(1, 1), 1);
    }

    private static TurnFace fullAndTyped(int... places) {
        TurnFace x = fourRings();
        typePlaces(x, places);
        return x;
    }

    @Edge(promise = 5, says = "Throws `IllegalStateException` if it has 4")
    static void fifthRing() {
        refused("the fifth", FULL, () -> fullAndTyped(0, 2), x -> x.ring(0, 1));
        refused("the fifth, of three", FULL, () -> fullAndTyped(0, 2, 4), x -> x.ring(0, 2));
    }

    @Edge(promise = 5, says = "If several exceptions apply, the one that is documented first is thrown.")
    static void whichOfTwoForRings() {
        refused("no puzzle, none typed", INDEX, () -> bare(3), x -> x.ring(1, 0));
        refused("one typed, and full", RANGE, () -> fullAndTyped(0), x -> x.ring(0, 1));
        refused("no place of it, and full", RANGE, () -> fullAndTyped(0, 5), x -> x.ring(0, 1));
        refused("step 0, and full", RANGE, () -> fullAndTyped(0, 2), x -> x.ring(0, 0));
        refused("step 2 of 2, and full", RANGE, () -> fullAndTyped(0, 2), x -> x.ring(0, 2));
    }

    // ---- promise 6: colour

    @Edge(promise = 6, says = "Throws `IndexOutOfBoundsException` if there is no such puzzle or place")
    static void noSuchPlaceToColour() {
        refused("puzzle -1", INDEX, () -> bare(3), x -> x.colour(-1, 0, 0));
        refused("puzzle 1 of one", INDEX, () -> bare(3), x -> x.colour(1, 0, 0));
        refused("place -1", INDEX, () -> bare(3), x -> x.colour(0, -1, 0));
        refused("place 3 of three", INDEX, () -> bare(3), x -> x.colour(0, 3, 0));
        refused("place 10 of ten", INDEX, () -> bare(10), x -> x.colour(0, 10, 0));
        refused("the greatest place", INDEX, () -> bare(3), x -> x.colour(0, MOST, 0));
        refused("the least place", INDEX, () -> bare(3), x -> x.colour(0, LEAST, 0));
        due("place 0", bare(3).colour(0, 0, 5), 0);
        due("place 2 of three", bare(3).colour(0, 2, 5), 2);
    }

    @Edge(promise = 6, says = "`colour`: 0 to 9")
    static void lowestColour() {
        TurnFace x = bare(3);
        x.colour(0, 1, 0);
        due("0", x.colour(0, 1, 1), 0);
        refused("-1", RANGE, () -> bare(3), y -> y.colour(0, 1, -1));
        refused("the least", RANGE, () -> bare(3), y -> y.colour(0, 1, LEAST));
    }

    @Edge(promise = 6, says = "Throws `IllegalArgumentException` if a number is out of range")
    static void highestColour() {
        TurnFace x = bare(3);
        x.colour(0, 1, 9);
        due("9", x.colour(0, 1, 1), 9);
        refused("10", RANGE, () -> bare(3), y -> y.colour(0, 1, 10));
        refused("the greatest", RANGE, () -> bare(3), y -> y.colour(0, 1, MOST));
    }

    @Edge(promise = 6, says = "Each place has a colour, 0 to 9, its own number at first.")
    static void coloursAtFirst() {
        TurnFace x = bare(10);
        for (int place = 0; place < 10; place++) {
            due("place " + place, x.colour(0, place, 9 - place), place);
        }
        for (int place = 0; place < 10; place++) {
            due("place " + place + " then", x.colour(0, place, 0), 9 - place);
        }
    }

    @Edge(promise = 6, says = "If several exceptions apply, the one that is documented first is thrown.")
    static void noPlaceAndNoColour() {
        refused("no puzzle, no colour", INDEX, () -> bare(3), x -> x.colour(1, 0, 10));
        refused("no place, no colour", INDEX, () -> bare(3), x -> x.colour(0, 3, -1));
    }

    // ---- promise 7: turn

    @Edge(promise = 7, says = "Throws `IndexOutOfBoundsException` if there is no such puzzle")
    static void turnWithoutPuzzle() {
        refused("-1", INDEX, Lab::four, x -> x.turn(-1, 'A', 1));
        refused("1 of one", INDEX, Lab::four, x -> x.turn(1, 'A', 1));
        refused("none", INDEX, TurnFace::new, x -> x.turn(0, 'A', 1));
    }

    @Edge(promise = 7, says = "Throws `IllegalArgumentException` if there is no such ring, or the number is out of range")
    static void noSuchRing() {
        refused("A of none", RANGE, () -> bare(3), x -> x.turn(0, 'A', 1));
        refused("C of two", RANGE, Lab::four, x -> x.turn(0, 'C', 1));
        refused("the one ahead of A", RANGE, Lab::four, x -> x.turn(0, '@', 1));
        refused("E of four", RANGE, Lab::fourRings, x -> x.turn(0, 'E', 1));
        refused("a small letter", RANGE, Lab::four, x -> x.turn(0, 'a', 1));
        refused("the first sign", RANGE, Lab::four, x -> x.turn(0, (char) 0, 1));
        refused("the last sign", RANGE, Lab::four, x -> x.turn(0, (char) 65535, 1));
    }

    @Edge(promise = 7, says = "at most 4 rings, 'A' to 'D', as they are added")
    static void ringsAsTheyAreAdded() {
        String[] rows = {"10234", "02134", "01324", "01243"};
        for (int i = 0; i < 4; i++) {
            TurnFace x = fourRings();
            due("ring " + i, x.turn(0, (char) ('A' + i), 1), 2);
            due("ring " + i, pieces(x, 0, 5), rows[i]);
        }
    }

    @Edge(promise = 7, says = "`times`: how often, below 0 back, -20 to 20")
    static void mostTimes() {
        TurnFace x = ringed(8, 1);
        due("20", x.turn(0, 'A', 20), 8);
        due("20", pieces(x, 0, 8), "45670123");
        refused("21", RANGE, Lab::four, y -> y.turn(0, 'A', 21));
        refused("the greatest", RANGE, Lab::four, y -> y.turn(0, 'A', MOST));
    }

    @Edge(promise = 7, says = "or the number is out of range")
    static void mostTimesBack() {
        TurnFace x = ringed(7, 1);
        due("-20", x.turn(0, 'A', -20), 7);
        due("-20", pieces(x, 0, 7), "6012345");
        refused("-21", RANGE, Lab::four, y -> y.turn(0, 'A', -21));
        refused("the least", RANGE, Lab::four, y -> y.turn(0, 'A', LEAST));
    }

    @Edge(promise = 7, says = "from the end to the beginning again")
    static void aroundTheEnd() {
        TurnFace x = bare(6);
        addRing(x, 0, 1, 4, 2, 0, 5);
        x.turn(0, 'A', 1);
        due("step 1", pieces(x, 0, 6), "214350");
        String[] rows = {"40123", "34012", "23401", "12340"};
        for (int step = 1; step <= 4; step++) {
            TurnFace y = ringed(5, step);
            y.turn(0, 'A', 1);
            due("step " + step + " of 5", pieces(y, 0, 5), rows[step - 1]);
        }
    }

    @Edge(promise = 7, says = "To turn back is to turn as often as makes it as it was ahead.")
    static void backAndAhead() {
        for (int times = 1; times <= 20; times++) {
            TurnFace x = ringed(8, 3);
            x.turn(0, 'A', times);
            x.turn(0, 'A', -times);
            due("back " + times, pieces(x, 0, 8), "01234567");
        }
        TurnFace y = ringed(5, 1);
        y.turn(0, 'A', -1);
        due("back once", pieces(y, 0, 5), "12340");
    }

    @Edge(promise = 7, says = "Returns how many places have another piece by that.")
    static void placesWithAnotherPiece() {
        due("not turned", ringed(8, 1).turn(0, 'A', 0), 0);
        due("once", ringed(8, 1).turn(0, 'A', 1), 8);
        due("all around", ringed(8, 1).turn(0, 'A', 8), 0);
        due("all around back", ringed(5, 1).turn(0, 'A', -20), 0);
        due("twice half around", ringed(8, 4).turn(0, 'A', 2), 0);
        TurnFace x = four();
        due("a ring of two", x.turn(0, 'B', 1), 2);
        due("by that, not than at first", x.turn(0, 'B', 1), 2);
    }

    @Edge(promise = 7, says = "Returns how many places have another piece by that.")
    static void piecesNotColours() {
        TurnFace x = four();
        for (int place = 0; place < 4; place++) {
            x.colour(0, place, 7);
        }
        due("of one colour", x.turn(0, 'A', 1), 3);
    }

    @Edge(promise = 7, says = "If several exceptions apply, the one that is documented first is thrown.")
    static void noPuzzleAndNoRing() {
        refused("no puzzle, no ring", INDEX, Lab::four, x -> x.turn(1, 'C', 1));
        refused("no puzzle, too often", INDEX, Lab::four, x -> x.turn(1, 'A', 21));
    }

    // ---- promise 8: pieceAt

    @Edge(promise = 8, says = "Throws `IndexOutOfBoundsException` if there is no such puzzle or place")
    static void noSuchPlaceToLookAt() {
        refused("puzzle -1", INDEX, () -> bare(3), x -> x.pieceAt(-1, 0));
        refused("puzzle 1 of one", INDEX, () -> bare(3), x -> x.pieceAt(1, 0));
        refused("puzzle 4 of four", INDEX, PuzzleEdgesTest::fourPuzzles, x -> x.pieceAt(4, 0));
        refused("place -1", INDEX, () -> bare(3), x -> x.pieceAt(0, -1));
        refused("place 3 of three", INDEX, () -> bare(3), x -> x.pieceAt(0, 3));
        refused("place 10 of ten", INDEX, () -> bare(10), x -> x.pieceAt(0, 10));
        refused("the greatest", INDEX, () -> bare(3), x -> x.pieceAt(0, MOST));
        refused("the least", INDEX, () -> bare(3), x -> x.pieceAt(0, LEAST));
    }

    @Edge(promise = 8, says = "At first each place has its own piece")
    static void ownPiecesAtFirst() {
        for (int places = 3; places <= 10; places++) {
            due(places + " places", pieces(bare(places), 0, places), "0123456789".substring(0, places));
        }
    }

    // ---- promise 9: swap

    @Edge(promise = 9, says = "Throws `IndexOutOfBoundsException` if there is no such puzzle")
    static void swapWithoutPuzzle() {
        refused("-1", INDEX, () -> bare(3), x -> x.swap(-1, 0, 1));
        refused("1 of one", INDEX, () -> bare(3), x -> x.swap(1, 0, 1));
    }

    @Edge(promise = 9, says = "Throws `IllegalArgumentException` if there is no such piece, for either")
    static void noSuchPiece() {
        refused("-1", RANGE, () -> bare(3), x -> x.swap(0, -1, 0));
        refused("3 of three", RANGE, () -> bare(3), x -> x.swap(0, 3, 0));
        refused("another one, -1", RANGE, () -> bare(3), x -> x.swap(0, 0, -1));
        refused("another one, 3 of three", RANGE, () -> bare(3), x -> x.swap(0, 0, 3));
        refused("both 3 of three", RANGE, () -> bare(3), x -> x.swap(0, 3, 3));
        refused("10 of ten", RANGE, () -> bare(10), x -> x.swap(0, 10, 0));
        refused("the least", RANGE, () -> bare(3), x -> x.swap(0, LEAST, 0));
        refused("the greatest", RANGE, () -> bare(3), x -> x.swap(0, 0, MOST));
        due("the first and the last", bare(3).swap(0, 0, 2), 1);
        due("the last and the first", bare(10).swap(0, 9, 0), 8);
    }

    @Edge(promise = 9, says = "Returns how many pieces are at their own places then.")
    static void ownPlacesAfterSwaps() {
        TurnFace x = bare(4);
        due("with itself", x.swap(0, 2, 2), 4);
        due("two away", x.swap(0, 0, 1), 2);
        due("none left", x.swap(0, 2, 3), 0);
        due("two again", x.swap(0, 1, 0), 2);
        due("all again", x.swap(0, 3, 2), 4);
    }

    @Edge(promise = 9, says = "Puts a piece where another one is, which comes to its place")
    static void piecesNotPlaces() {
        TurnFace x = bare(4);
        x.swap(0, 0, 3);
        due("0 and 3", pieces(x, 0, 4), "3120");
        x.swap(0, 3, 1);
        due("3 and 1, wherever they are", pieces(x, 0, 4), "1320");
    }

    @Edge(promise = 9, says = "If several exceptions apply, the one that is documented first is thrown.")
    static void noPuzzleAndNoPiece() {
        refused("no puzzle, no piece", INDEX, () -> bare(3), x -> x.swap(1, 3, 0));
        refused("no puzzle, not another one", INDEX, () -> bare(3), x -> x.swap(-1, 0, 3));
    }

    // ---- promise 10: reset

    @Edge(promise = 10, says = "Throws `IndexOutOfBoundsException` if there is no such puzzle")
    static void resetWithoutPuzzle() {
        refused("-1", INDEX, Lab::four, x -> x.reset(-1));
        refused("1 of one", INDEX, Lab::four, x -> x.reset(1));
    }

    @Edge(promise = 10, says = "Returns how many places had another piece.")
    static void resetsNoneAndAll() {
        due("none", bare(3).reset(0), 0);
        TurnFace x = ten();
        x.toNumber(0, 3628799);
        due("all ten", x.reset(0), 10);
        due("none then", x.reset(0), 0);
        TurnFace y = bare(3);
        y.swap(0, 0, 1);
        due("two, not in the group", y.reset(0), 2);
        due("as at first", pieces(y, 0, 3), "012");
    }

    @Edge(promise = 10, says = "Makes a puzzle as at first.")
    static void resetsItAlone() {
        TurnFace x = four();
        x.puzzle(3);
        x.turn(0, 'A', 1);
        x.swap(1, 0, 1);
        x.reset(0);
        due("this one", pieces(x, 0, 4), "0123");
        due("another one", pieces(x, 1, 3), "102");
        due("its rings", x.turn(0, 'B', 1), 2);
    }

    // ---- promise 11: isSolved

    @Edge(promise = 11, says = "Throws `IndexOutOfBoundsException` if there is no such puzzle")
    static void solvedWithoutPuzzle() {
        refused("-1", INDEX, Lab::four, x -> x.isSolved(-1));
        refused("1 of one", INDEX, Lab::four, x -> x.isSolved(1));
    }

    @Edge(promise = 11, says = "A puzzle is solved if at each place is a piece of the colour of that place.")
    static void solvedButForTwo() {
        TurnFace x = bare(10);
        due("at first", x.isSolved(0), true);
        x.swap(0, 8, 9);
        due("the last two away", x.isSolved(0), false);
        x.colour(0, 8, 9);
        due("the last two alike", x.isSolved(0), true);
        x.swap(0, 0, 1);
        due("the first two away", x.isSolved(0), false);
    }

    @Edge(promise = 11, says = "A puzzle is solved if at each place is a piece of the colour of that place.")
    static void solvedInOneColour() {
        TurnFace x = bare(4);
        for (int place = 0; place < 4; place++) {
            x.colour(0, place, 0);
        }
        x.swap(0, 0, 3);
        x.swap(0, 1, 2);
        due("all alike", x.isSolved(0), true);
        x.colour(0, 0, 1);
        due("one unlike, away", x.isSolved(0), false);
        x.swap(0, 0, 3);
        due("one unlike, at home", x.isSolved(0), true);
    }

}
