/** For each promise of the document answers worked out by hand: ordinary ones, the edges it names, and wrong inputs in their order. */
public final class PromiseTest extends Lab {
    public static void main(String[] args) {
        examples();
        newObject();
        typePlace();
        puzzleAndRing();
        colourAndSolved();
        turnAndPieceAt();
        swapAndReset();
        orderAndIn();
        centreAndKinds();
        oddAndOrbits();
        period();
        numbers();
        scramble();
        distances();
        distancesByColours();
        search();
        searchOrder();
        type();
        words();
        noWords();
        longWords();
        turnsOfWords();
        apply();
        competitorAndRound();
        attemptResults();
        attemptOrder();
        limits();
        cutoffs();
        moves();
        several();
        bestAndAverage();
        ranks();
        ranksOfSeveral();
        advances();
        advancesAlike();
        close();
        records();
        recordsOfDays();
        undo();
        resultShare();
        checksum();
        isSound();
        nothingChanges();
        end("all promises hold");
    }

    private static void examples() {
        TurnFace x = new TurnFace();
        due("example 1", x.puzzle(3), 0);
        due("example 1", x.typePlace(0), 1);
        due("example 1", x.typePlace(1), 2);
        due("example 1", x.typePlace(2), 3);
        due("example 1", x.ring(0, 1), 1);
        due("example 1", x.order(0), 3);
        due("example 1", x.turn(0, 'A', 1), 3);
        due("example 1", x.pieceAt(0, 1), 0);
        due("example 1", x.numberOf(0), 2);
        due("example 1", x.distance(0, 'q'), 1);
        due("example 1", x.god(0, 'q'), 1);
        TurnFace y = new TurnFace();
        y.puzzle(4);
        addRing(y, 0, 1, 0, 1);
        addRing(y, 0, 1, 1, 2);
        typeAll(y, "[A|B]");
        due("example 2", y.length('q'), 4);
        due("example 2", y.apply(0), false);
        due("example 2", y.search(0, 6), 2);
        TurnFace z = competing(1, '3', 0, 0);
        due("example 3", z.attempt(0, 0, 0, 1000, 0, false), 1000);
        due("example 3", z.attempt(0, 0, 1600, 1000, 0, false), 1200);
        due("example 3", z.attempt(0, 0, 0, 1000, 10, false), 1200);
        due("example 3", z.average(0, 0), 1133);
        due("example 3", z.best(0, 0), 1000);
        TurnFace w = competing(1, '5', 0, 0);
        times(w, 0, 0, 1000, 1100, 1200, 1300);
        due("example 4", w.attempt(0, 0, 0, 900, 0, true), 0);
        due("example 4", w.average(0, 0), 1200);
    }

    private static void newObject() {
        TurnFace x = new TurnFace();
        fails("1 puzzle", INDEX, () -> x.order(0));
        fails("1 round", INDEX, () -> x.attempts(0, 0));
        due("1 places", x.wipePlaces(), 0);
        due("1 signs", x.wipe(), 0);
        due("1 puzzles", x.puzzle(3), 0);
        due("1 rounds", x.round('5', 0, 0), 0);
    }

    private static void typePlace() {
        TurnFace x = new TurnFace();
        fails("2 low", RANGE, () -> x.typePlace(-1));
        fails("2 high", RANGE, () -> x.typePlace(10));
        for (int i = 0; i < 8; i++) {
            due("2 count", x.typePlace(9 - i), i + 1);
        }
        fails("2 range ahead of full", RANGE, () -> x.typePlace(10));
        fails("2 typed ahead of full", REFUSED, () -> x.typePlace(9));
        fails("2 full", FULL, () -> x.typePlace(0));
        due("3 many", x.wipePlaces(), 8);
        due("3 none", x.wipePlaces(), 0);
        due("2 again", x.typePlace(9), 1);
        fails("2 typed", REFUSED, () -> x.typePlace(9));
    }

    private static void puzzleAndRing() {
        TurnFace x = new TurnFace();
        fails("4 low", RANGE, () -> x.puzzle(2));
        fails("4 high", RANGE, () -> x.puzzle(11));
        due("4", x.puzzle(3), 0);
        due("4", x.puzzle(10), 1);
        due("4", x.puzzle(4), 2);
        due("4", x.puzzle(4), 3);
        fails("4 range ahead of full", RANGE, () -> x.puzzle(2));
        fails("4 full", FULL, () -> x.puzzle(3));
        fails("5 no puzzle", INDEX, () -> x.ring(4, 1));
        fails("5 no puzzle below", INDEX, () -> x.ring(-1, 1));
        fails("5 none typed", RANGE, () -> x.ring(0, 1));
        x.typePlace(0);
        fails("5 one typed", RANGE, () -> x.ring(0, 1));
        x.typePlace(3);
        fails("5 no such place", RANGE, () -> x.ring(0, 1));
        fails("5 step 0", RANGE, () -> x.ring(2, 0));
        fails("5 step as long", RANGE, () -> x.ring(2, 2));
        due("5 kept while refused", x.wipePlaces(), 2);
        for (int i = 1; i <= 4; i++) {
            x.typePlace(2);
            x.typePlace(0);
            x.typePlace(1);
            due("5 rings", x.ring(0, i % 2 + 1), i);
            due("5 wiped", x.wipePlaces(), 0);
        }
        fails("5 range ahead of full", RANGE, () -> x.ring(0, 1));
        x.typePlace(0);
        x.typePlace(1);
        fails("5 full", FULL, () -> x.ring(0, 1));
        x.colour(2, 1, 7);
        addRing(x, 2, 1, 0, 1, 2);
        x.turn(2, 'A', 1);
        addRing(x, 2, 1, 2, 3);
        due("5 own places", pieces(x, 2, 4), "0123");
        due("5 colours stay", x.colour(2, 1, 7), 7);
        addRing(x, 1, 7, 0, 1, 2, 3, 4, 5, 6, 7);
        x.turn(1, 'A', 1);
        due("5 long step", pieces(x, 1, 10), "1234567089");
    }

    private static void colourAndSolved() {
        TurnFace x = four();
        fails("6 puzzle", INDEX, () -> x.colour(1, 0, 0));
        fails("6 place", INDEX, () -> x.colour(0, 4, 10));
        fails("6 place below", INDEX, () -> x.colour(0, -1, 0));
        fails("6 low", RANGE, () -> x.colour(0, 0, -1));
        fails("6 high", RANGE, () -> x.colour(0, 0, 10));
        due("6 own number", x.colour(0, 3, 9), 3);
        due("6 before", x.colour(0, 3, 3), 9);
        due("11 at first", x.isSolved(0), true);
        x.turn(0, 'B', 1);
        due("11 swapped", x.isSolved(0), false);
        x.colour(0, 3, 2);
        due("11 alike", x.isSolved(0), true);
        x.turn(0, 'A', 1);
        due("11 turned", x.isSolved(0), false);
        fails("11 puzzle", INDEX, () -> x.isSolved(1));
        x.reset(0);
        due("10 colours stay", x.colour(0, 3, 3), 2);
    }

    private static void turnAndPieceAt() {
        TurnFace x = new TurnFace();
        x.puzzle(6);
        addRing(x, 0, 1, 4, 2, 0, 5);
        addRing(x, 0, 2, 0, 1, 2, 3);
        addRing(x, 0, 2, 0, 1, 2, 3, 4);
        due("7 once", x.turn(0, 'A', 1), 4);
        due("7 once", pieces(x, 0, 6), "214350");
        due("7 back", x.turn(0, 'A', -1), 4);
        due("7 back", pieces(x, 0, 6), "012345");
        due("7 around", x.turn(0, 'A', 20), 0);
        due("7 around back", x.turn(0, 'A', -20), 0);
        due("7 none", x.turn(0, 'A', 0), 0);
        due("7 thrice", x.turn(0, 'A', 3), 4);
        due("7 thrice", pieces(x, 0, 6), "510324");
        x.reset(0);
        due("7 step", x.turn(0, 'B', 1), 4);
        due("7 step", pieces(x, 0, 6), "230145");
        due("7 step twice", x.turn(0, 'B', -1), 4);
        due("7 step 2 of 5", x.turn(0, 'C', 1), 5);
        due("7 step 2 of 5", pieces(x, 0, 6), "340125");
        due("7 step 2 of 5", x.turn(0, 'C', -6), 5);
        due("7 step 2 of 5", pieces(x, 0, 6), "012345");
        fails("7 puzzle", INDEX, () -> x.turn(1, 'A', 1));
        fails("7 puzzle first", INDEX, () -> x.turn(1, 'Z', 21));
        fails("7 ring", RANGE, () -> x.turn(0, 'D', 1));
        fails("7 ring low", RANGE, () -> x.turn(0, '@', 1));
        fails("7 ring far", RANGE, () -> x.turn(0, (char) 65535, 1));
        fails("7 high", RANGE, () -> x.turn(0, 'A', 21));
        fails("7 low", RANGE, () -> x.turn(0, 'A', -21));
        fails("7 least", RANGE, () -> x.turn(0, 'A', Integer.MIN_VALUE));
        fails("8 puzzle", INDEX, () -> x.pieceAt(-1, 0));
        fails("8 place", INDEX, () -> x.pieceAt(0, 6));
        fails("8 place below", INDEX, () -> x.pieceAt(0, -1));
        due("8", x.pieceAt(0, 5), 5);
    }

    private static void swapAndReset() {
        TurnFace x = new TurnFace();
        x.puzzle(4);
        addRing(x, 0, 1, 0, 1, 2);
        fails("9 puzzle", INDEX, () -> x.swap(1, 0, 9));
        fails("9 piece", RANGE, () -> x.swap(0, 4, 0));
        fails("9 other", RANGE, () -> x.swap(0, 0, -1));
        due("9", x.swap(0, 0, 3), 2);
        due("9", pieces(x, 0, 4), "3120");
        due("9 by pieces", x.swap(0, 3, 1), 1);
        due("9 by pieces", pieces(x, 0, 4), "1320");
        due("9 itself", x.swap(0, 2, 2), 1);
        due("9 with 0", x.swap(0, 1, 0), 2);
        due("9 with 0", x.swap(0, 0, 1), 1);
        due("10", x.reset(0), 3);
        due("10", pieces(x, 0, 4), "0123");
        due("10 again", x.reset(0), 0);
        due("10 rings stay", x.turn(0, 'A', 1), 3);
        fails("10 puzzle", INDEX, () -> x.reset(1));
    }

    private static void orderAndIn() {
        TurnFace x = new TurnFace();
        x.puzzle(10);
        due("12 no ring", x.order(0), 1);
        addRing(x, 0, 1, 0, 1, 2, 3, 4, 5, 6, 7);
        due("12 one ring", x.order(0), 8);
        addRing(x, 0, 1, 7, 8);
        due("12 nine places", x.order(0), 362880);
        addRing(x, 0, 1, 8, 9);
        due("12 ten places", x.order(0), 3628800);
        x.puzzle(10);
        addRing(x, 1, 1, 0, 1, 2);
        addRing(x, 1, 1, 2, 3, 4);
        addRing(x, 1, 1, 4, 5, 6);
        addRing(x, 1, 1, 6, 7, 8);
        due("12 even ones", x.order(1), 181440);
        x.puzzle(8);
        addRing(x, 2, 1, 0, 1);
        addRing(x, 2, 1, 2, 3, 4);
        addRing(x, 2, 2, 5, 6, 7);
        due("12 apart", x.order(2), 18);
        x.puzzle(4);
        addRing(x, 3, 1, 0, 1, 2, 3);
        addRing(x, 3, 1, 0, 2);
        due("12 of a square", x.order(3), 8);
        fails("12 puzzle", INDEX, () -> x.order(4));
        due("13 first", x.isIn(1), true);
        x.swap(1, 0, 1);
        due("13 swapped", x.isIn(1), false);
        x.swap(1, 2, 3);
        due("13 twice", x.isIn(1), true);
        x.swap(1, 2, 9);
        due("13 out of place", x.isIn(1), false);
        x.turn(1, 'A', 5);
        due("13 turned", x.isIn(1), false);
        x.swap(2, 5, 6);
        due("13 of three", x.isIn(2), false);
        fails("13 puzzle", INDEX, () -> x.isIn(4));
    }

    private static void centreAndKinds() {
        TurnFace x = four();
        due("14 of all", x.centre(0), 1);
        due("15 of all", x.kinds(0), 24);
        x.colour(0, 0, 5);
        x.colour(0, 1, 5);
        due("15 two alike", x.kinds(0), 12);
        x.colour(0, 2, 5);
        due("15 three alike", x.kinds(0), 4);
        x.colour(0, 3, 5);
        due("15 all alike", x.kinds(0), 1);
        x.puzzle(4);
        due("14 no ring", x.centre(1), 1);
        due("15 no ring", x.kinds(1), 1);
        addRing(x, 1, 1, 0, 1, 2, 3);
        due("14 of a ring", x.centre(1), 4);
        x.colour(1, 2, 0);
        x.colour(1, 3, 1);
        due("15 of a ring", x.kinds(1), 2);
        addRing(x, 1, 1, 0, 2);
        due("14 of a square", x.centre(1), 2);
        x.puzzle(7);
        addRing(x, 2, 1, 0, 1, 2, 3, 4, 5);
        addRing(x, 2, 1, 0, 1);
        due("14 of 720", x.centre(2), 1);
        due("15 of 720", x.kinds(2), 720);
        addRing(x, 2, 1, 5, 6);
        fails("14 not small", REFUSED, () -> x.centre(2));
        fails("15 not small", REFUSED, () -> x.kinds(2));
        fails("14 puzzle", INDEX, () -> x.centre(3));
        fails("15 puzzle", INDEX, () -> x.kinds(3));
    }

    private static void oddAndOrbits() {
        TurnFace x = new TurnFace();
        x.puzzle(10);
        due("16 no ring", x.isOdd(0), false);
        due("17 no ring", x.orbits(0), 0);
        addRing(x, 0, 1, 0, 1, 2);
        due("16 three", x.isOdd(0), false);
        due("17 three", x.orbits(0), 1);
        addRing(x, 0, 2, 4, 5, 6, 7);
        due("16 four by two", x.isOdd(0), false);
        due("17 four by two", x.orbits(0), 3);
        addRing(x, 0, 1, 8, 9);
        due("16 two", x.isOdd(0), true);
        due("17 two", x.orbits(0), 4);
        addRing(x, 0, 1, 2, 4);
        due("17 joined", x.orbits(0), 3);
        x.puzzle(8);
        addRing(x, 1, 2, 0, 1, 2, 3, 4, 5);
        due("16 six by two", x.isOdd(1), false);
        due("17 six by two", x.orbits(1), 2);
        addRing(x, 1, 3, 0, 1, 2, 3, 4, 5);
        due("16 six by three", x.isOdd(1), true);
        due("17 six by three", x.orbits(1), 1);
        x.puzzle(4);
        addRing(x, 2, 1, 0, 1, 2, 3);
        due("16 first ring", x.isOdd(2), true);
        addRing(x, 2, 1, 0, 1, 2);
        due("16 first ring of two", x.isOdd(2), true);
        fails("16 puzzle", INDEX, () -> x.isOdd(3));
        fails("17 puzzle", INDEX, () -> x.orbits(3));
    }

    private static void period() {
        TurnFace x = new TurnFace();
        x.puzzle(10);
        due("18 first", x.period(0), 1);
        x.swap(0, 0, 1);
        due("18 swap", x.period(0), 2);
        x.swap(0, 2, 3);
        x.swap(0, 3, 4);
        due("18 six", x.period(0), 6);
        x.swap(0, 5, 6);
        x.swap(0, 6, 7);
        x.swap(0, 7, 8);
        x.swap(0, 8, 9);
        due("18 thirty", x.period(0), 30);
        due("18 state stays", pieces(x, 0, 10).length(), 10);
        fails("18 puzzle", INDEX, () -> x.period(1));
    }

    private static void numbers() {
        TurnFace x = four();
        due("19 first", x.numberOf(0), 0);
        due("20 5", x.toNumber(0, 5), 2);
        due("20 5", pieces(x, 0, 4), "0321");
        due("20 last", x.toNumber(0, 23), 4);
        due("20 last", pieces(x, 0, 4), "3210");
        fails("20 high", MISSING, () -> x.toNumber(0, 24));
        fails("20 low", MISSING, () -> x.toNumber(0, -1));
        fails("20 far", MISSING, () -> x.toNumber(0, Long.MIN_VALUE));
        due("20 stays", x.numberOf(0), 23);
        due("20 none", x.toNumber(0, 0), 0);
        x.puzzle(6);
        addRing(x, 1, 1, 5, 0);
        addRing(x, 1, 1, 1, 3, 4);
        String[] rows = {"012345", "032415", "042135"};
        for (int i = 0; i < rows.length; i++) {
            x.toNumber(1, i);
            due("20 row " + i, pieces(x, 1, 6), rows[i]);
            due("19 row " + i, x.numberOf(1), i);
        }
        x.swap(1, 0, 1);
        fails("19 not in", MISSING, () -> x.numberOf(1));
        fails("19 puzzle", INDEX, () -> x.numberOf(2));
        fails("20 puzzle", INDEX, () -> x.toNumber(2, -1));
    }

    private static void scramble() {
        TurnFace x = four();
        due("21 seed 0", x.scramble(0, 0), 0);
        due("21 seed 0", pieces(x, 0, 4), "0123");
        due("21 seed 77", x.scramble(0, 77), 10);
        due("21 number", x.numberOf(0), 10);
        long z = 99999L * 2654435761L;
        due("21 seed 99999", x.scramble(0, 99999), (z ^ z >>> 15) % 24);
        x.puzzle(3);
        due("21 no ring", x.scramble(1, 123), 0);
        x.swap(1, 0, 1);
        x.scramble(1, 9);
        due("21 from whatever state", pieces(x, 1, 3), "012");
        fails("21 low", RANGE, () -> x.scramble(0, -1));
        fails("21 high", RANGE, () -> x.scramble(0, 100000));
        fails("21 puzzle", INDEX, () -> x.scramble(2, -1));
    }

    private static void distances() {
        TurnFace x = new TurnFace();
        x.puzzle(5);
        addRing(x, 0, 1, 0, 1, 2, 3, 4);
        due("23 q", x.god(0, 'q'), 2);
        due("23 t", x.god(0, 't'), 1);
        due("24 q 0", x.many(0, 'q', 0), 1);
        due("24 q 1", x.many(0, 'q', 1), 2);
        due("24 q 2", x.many(0, 'q', 2), 2);
        due("24 q 3", x.many(0, 'q', 3), 0);
        due("24 below", x.many(0, 'q', -1), 0);
        due("24 t 1", x.many(0, 't', 1), 4);
        due("47 q", x.meanDistance(0, 'q'), 6.0 / 5.0);
        due("47 t", x.meanDistance(0, 't'), 4.0 / 5.0);
        due("22 solved", x.distance(0, 'q'), 0);
        x.turn(0, 'A', 3);
        due("22 q", x.distance(0, 'q'), 2);
        due("22 t", x.distance(0, 't'), 1);
        x.swap(0, 0, 1);
        fails("22 not in", MISSING, () -> x.distance(0, 'q'));
        fails("22 count first", RANGE, () -> x.distance(0, 'x'));
        x.puzzle(7);
        due("23 no ring", x.god(1, 't'), 0);
        due("47 no ring", x.meanDistance(1, 't'), 0.0);
        addRing(x, 1, 1, 0, 1, 2, 3, 4, 5, 6);
        addRing(x, 1, 1, 0, 1);
        for (int i = 0; i < 2; i++) {
            int puzzle = i == 0 ? 1 : 2;
            Class<?> small = i == 0 ? REFUSED : INDEX;
            Class<?> count = i == 0 ? RANGE : INDEX;
            fails("22 small", small, () -> x.distance(puzzle, 'q'));
            fails("23 small", small, () -> x.god(puzzle, 'q'));
            fails("24 small", small, () -> x.many(puzzle, 't', 0));
            fails("47 small", small, () -> x.meanDistance(puzzle, 't'));
            fails("22 count", count, () -> x.distance(puzzle, 'Q'));
            fails("23 count", count, () -> x.god(puzzle, 'r'));
            fails("24 count", count, () -> x.many(puzzle, 's', 0));
            fails("47 count", count, () -> x.meanDistance(puzzle, (char) 0));
        }
        TurnFace y = four();
        due("23 of all q", y.god(0, 'q'), 6);
        due("24 of all", y.many(0, 'q', 1), 3);
        due("47 of all", y.meanDistance(0, 'q'), 3.0833333333333335);
    }

    private static void distancesByColours() {
        TurnFace x = new TurnFace();
        x.puzzle(4);
        addRing(x, 0, 1, 0, 1, 2, 3);
        due("22 unlike colours", x.god(0, 'q'), 2);
        x.colour(0, 2, 0);
        x.colour(0, 3, 1);
        due("22 whatever solved state", x.god(0, 'q'), 1);
        due("24 whatever solved state", x.many(0, 'q', 0), 2);
        x.turn(0, 'A', 2);
        due("22 solved otherwise", x.distance(0, 't'), 0);
        x.swap(0, 0, 2);
        due("22 solved by colours", x.isSolved(0), true);
        fails("22 but not in", MISSING, () -> x.distance(0, 't'));
    }

    private static void search() {
        TurnFace x = four();
        due("25 solved", x.search(0, 0), 0);
        fails("26 solved", MISSING, () -> x.searchAt(0, 0, 0));
        x.turn(0, 'A', 1);
        x.turn(0, 'B', -1);
        due("25 too few", x.search(0, 1), -1);
        due("25 enough", x.search(0, 2), 2);
        due("25 more", x.search(0, 6), 2);
        due("26 first", x.searchAt(0, 6, 0), 2);
        due("26 second", x.searchAt(0, 6, 1), 1);
        fails("26 behind", MISSING, () -> x.searchAt(0, 6, 2));
        fails("26 below", MISSING, () -> x.searchAt(0, 6, -1));
        fails("26 no way", MISSING, () -> x.searchAt(0, 1, 0));
        fails("25 low", RANGE, () -> x.search(0, -1));
        fails("25 high", RANGE, () -> x.search(0, 7));
        fails("26 low", RANGE, () -> x.searchAt(0, -1, 0));
        fails("26 high", RANGE, () -> x.searchAt(0, 7, 99));
        fails("25 puzzle", INDEX, () -> x.search(1, 7));
        fails("26 puzzle", INDEX, () -> x.searchAt(-1, 7, 0));
        for (long number = 0; number < 24; number++) {
            x.toNumber(0, number);
            due("25 as the distance " + number, x.search(0, 6), x.distance(0, 'q'));
        }
        x.puzzle(10);
        due("25 no ring", x.search(1, 6), 0);
        x.swap(1, 3, 4);
        due("25 no ring, no way", x.search(1, 6), -1);
        x.colour(1, 4, 3);
        due("25 not in, yet solved", x.search(1, 6), 0);
    }

    private static void searchOrder() {
        TurnFace x = new TurnFace();
        x.puzzle(8);
        addRing(x, 0, 1, 0, 1, 2, 3);
        addRing(x, 0, 1, 4, 5);
        addRing(x, 0, 1, 6, 7);
        x.turn(0, 'C', 1);
        x.turn(0, 'B', -1);
        x.turn(0, 'A', 2);
        due("25 apart", x.search(0, 6), 4);
        int[] way = {0, 0, 2, 4};
        for (int i = 0; i < 4; i++) {
            due("26 first way " + i, x.searchAt(0, 6, i), way[i]);
        }
        x.puzzle(10);
        addRing(x, 1, 1, 0, 1, 2, 3, 4, 5, 6, 7);
        addRing(x, 1, 1, 7, 8, 9);
        x.turn(1, 'A', 3);
        x.turn(1, 'B', 1);
        x.turn(1, 'A', -2);
        due("25 six", x.search(1, 6), 6);
        due("25 five", x.search(1, 5), -1);
        int[] back = {0, 0, 3, 1, 1, 1};
        for (int i = 0; i < 6; i++) {
            due("26 six " + i, x.searchAt(1, 6, i), back[i]);
        }
        x.turn(1, 'B', 1);
        due("25 seven", x.search(1, 6), -1);
        fails("26 seven", MISSING, () -> x.searchAt(1, 6, 0));
    }

    private static void type() {
        TurnFace x = new TurnFace();
        for (char sign : "E@01:a,(){} \u0000\uffff".toCharArray()) {
            fails("27 no sign", RANGE, () -> x.type(sign));
        }
        int count = 0;
        for (char sign : "ABCD23456789-<>[|]".toCharArray()) {
            count++;
            due("27 signs", x.type(sign), count);
        }
        for (; count < 30; count++) {
            due("27 count", x.type('A'), count + 1);
        }
        fails("27 full", FULL, () -> x.type('A'));
        fails("27 sign ahead of full", RANGE, () -> x.type('E'));
        due("28", x.wipe(), 30);
        due("28 none", x.wipe(), 0);
    }

    private static void words() {
        TurnFace x = new TurnFace();
        String[] words = {"", "A", "ABCD", "A2", "A-", "A9-", "<>", "<>5-", "<A>", "<A2>3-", "[|]", "[A|]", "[|A]2", "[A|B]", "<[A|B-]3-D>2", "<<<<<<<<<<<<<<<>>>>>>>>>>>>>>>"};
        int[] lengths = {0, 1, 4, 2, 1, 9, 0, 0, 1, 6, 0, 2, 4, 4, 26, 0};
        for (int i = 0; i < words.length; i++) {
            typeAll(x, words[i]);
            due("29 " + words[i], x.isWord(), true);
            due("30 " + words[i], x.length('q'), lengths[i]);
        }
    }

    private static void noWords() {
        TurnFace x = new TurnFace();
        String[] rows = {"2", "-", "A--", "A-2", "A22", "A2-3", "<", ">", "<A", "A>", "[", "]", "|", "[A]", "[A|B", "[A|B|C]", "<A|B>", "[A|B>", "<A]", "[<A|B>]", "<2>", "<->", "[|2]", "[2|]", "A|B", "[A||B]", "[A|2B]", "[A|-B]", "[A2|3]", "<A2>-2", "A<2>", "B3[-|]"};
        for (String row : rows) {
            typeAll(x, row);
            due("29 " + row, x.isWord(), false);
            fails("30 " + row, REFUSED, () -> x.length('q'));
            fails("31 " + row, REFUSED, () -> x.turnAt(0));
            due("29 stays " + row, x.wipe(), row.length());
        }
        typeAll(x, "[A|B");
        fails("30 count first", RANGE, () -> x.length('x'));
        x.type(']');
        due("29 mended", x.isWord(), true);
        fails("30 count", RANGE, () -> x.length('Q'));
    }

    private static void longWords() {
        TurnFace x = new TurnFace();
        typeAll(x, "<<A5>4>6");
        due("29 120", x.isWord(), true);
        due("30 120", x.length('q'), 120);
        due("30 120 t", x.length('t'), 1);
        due("31 119", x.turnAt(119), 0);
        fails("31 120", MISSING, () -> x.turnAt(120));
        x.type('B');
        due("29 121", x.isWord(), false);
        fails("30 121", REFUSED, () -> x.length('q'));
        fails("31 121", REFUSED, () -> x.turnAt(0));
        typeAll(x, "<<<A5>4>6>-");
        due("29 120 back", x.isWord(), true);
        typeAll(x, "[<<A5>6>2|]");
        due("29 commutator of 120", x.isWord(), true);
        typeAll(x, "[<<A5>6>2|B]");
        due("29 commutator of 122", x.isWord(), false);
        typeAll(x, "<<<<<A9>9>9>9>9>9");
        due("29 far too long", x.isWord(), false);
        typeAll(x, "<<<<<<<<>9>9>9>9>9>9>9>9");
        due("29 nothing, often", x.isWord(), true);
        due("30 nothing, often", x.length('t'), 0);
    }

    private static void turnsOfWords() {
        TurnFace x = new TurnFace();
        expectTurns(x, "AB-", "03");
        expectTurns(x, "<AB>-", "31");
        expectTurns(x, "<AB->2", "0303");
        expectTurns(x, "<AB->2-", "2121");
        expectTurns(x, "[A|B-]", "0312");
        expectTurns(x, "[A|B-]-", "3021");
        expectTurns(x, "[AB|C-]", "0253" + "14");
        expectTurns(x, "[A|[B|C]]D", "0" + "2435" + "1" + "4253" + "6");
        expectTurns(x, "A2-B3", "11222");
        fails("31 below", MISSING, () -> x.turnAt(-1));
        fails("31 behind", MISSING, () -> x.turnAt(5));
        typeAll(x, "AA-A2BB-A");
        due("30 q as they stand", x.length('q'), 7);
        due("30 t as they stand", x.length('t'), 3);
        String[] rows = {"AB", "BB", "CDDC-", "DC", "A2B2-"};
        int[] runs = {2, 1, 3, 2, 2};
        for (int i = 0; i < rows.length; i++) {
            typeAll(x, rows[i]);
            due("30 t " + rows[i], x.length('t'), runs[i]);
        }
        typeAll(x, "A<>A");
        due("30 t over nothing", x.length('t'), 1);
    }

    private static void expectTurns(TurnFace x, String word, String turns) {
        typeAll(x, word);
        due("30 " + word, x.length('q'), turns.length());
        for (int i = 0; i < turns.length(); i++) {
            due("31 " + word + " at " + i, x.turnAt(i), turns.charAt(i) - '0');
        }
    }

    private static void apply() {
        TurnFace x = four();
        typeAll(x, "AB");
        due("32", x.apply(0), false);
        due("32", pieces(x, 0, 4), "2031");
        due("32 stays typed", x.isWord(), true);
        typeAll(x, "<AB>-");
        due("32 back", x.apply(0), true);
        due("32 back", pieces(x, 0, 4), "0123");
        x.wipe();
        due("32 nothing", x.apply(0), true);
        typeAll(x, "AC");
        fails("32 ring", REFUSED, () -> x.apply(0));
        due("32 nothing done", pieces(x, 0, 4), "0123");
        typeAll(x, "<");
        fails("32 no word", REFUSED, () -> x.apply(0));
        fails("32 puzzle first", INDEX, () -> x.apply(1));
        x.colour(0, 3, 2);
        typeAll(x, "B");
        due("32 by colours", x.apply(0), true);
    }

    private static void competitorAndRound() {
        TurnFace x = new TurnFace();
        fails("33 low", RANGE, () -> x.competitor(-1));
        fails("33 high", RANGE, () -> x.competitor(6));
        for (int i = 0; i < 12; i++) {
            due("33", x.competitor(i % 6), i);
        }
        fails("33 range ahead of full", RANGE, () -> x.competitor(6));
        fails("33 full", FULL, () -> x.competitor(0));
        fails("34 format", RANGE, () -> x.round('2', 0, 0));
        fails("34 limit low", RANGE, () -> x.round('5', -1, 0));
        fails("34 limit high", RANGE, () -> x.round('5', 1000000, 0));
        fails("34 cutoff low", RANGE, () -> x.round('5', 0, -1));
        fails("34 cutoff high", RANGE, () -> x.round('5', 0, 60000));
        String formats = "53bfm553";
        for (int i = 0; i < 8; i++) {
            due("34", x.round(formats.charAt(i), 999999, 59999), i);
        }
        fails("34 range ahead of full", RANGE, () -> x.round('x', 0, 0));
        fails("34 full", FULL, () -> x.round('5', 0, 0));
    }

    private static void attemptResults() {
        int[][] told = {
            {0, 1, 0, 1}, {1500, 1000, 0, 1000}, {1501, 1000, 0, 1200}, {1700, 1000, 0, 1200}, {1701, 1000, 0, 0},
            {9999, 59999, 0, 0}, {0, 1000, 1, 1200}, {0, 1000, 45, 1200}, {0, 1000, 46, 0}, {0, 1000, 180, 0},
            {0, 1000, 314, 0}, {0, 1000, 315, 1200}, {0, 1000, 359, 1200}, {1600, 59999, 350, 60399},
        };
        for (int[] row : told) {
            TurnFace x = competing(1, 'b', 0, 0);
            due("35 " + row[0] + " " + row[1] + " " + row[2], x.attempt(0, 0, row[0], row[1], row[2], false), row[3]);
            due("35 popped", x.attempt(0, 0, row[0], row[1], row[2], true), 0);
            due("38", x.attempts(0, 0), 2);
        }
    }

    private static void attemptOrder() {
        TurnFace x = competing(2, '3', 0, 0);
        x.round('f', 0, 0);
        fails("35 round", INDEX, () -> x.attempt(2, 0, 0, 1000, 0, false));
        fails("35 competitor", INDEX, () -> x.attempt(0, 2, 0, 1000, 0, false));
        fails("35 competitor below", INDEX, () -> x.attempt(0, -1, 0, 1000, 0, false));
        fails("35 format ahead of range", REFUSED, () -> x.attempt(1, 0, -1, 1000, 0, false));
        fails("35 inspection", RANGE, () -> x.attempt(0, 0, -1, 1000, 0, false));
        fails("35 inspection", RANGE, () -> x.attempt(0, 0, 10000, 1000, 0, false));
        fails("35 time", RANGE, () -> x.attempt(0, 0, 0, 0, 0, false));
        fails("35 time", RANGE, () -> x.attempt(0, 0, 0, 60000, 0, true));
        fails("35 angle", RANGE, () -> x.attempt(0, 0, 0, 1000, -1, false));
        fails("35 angle", RANGE, () -> x.attempt(0, 0, 0, 1000, 360, false));
        due("38 none", x.attempts(0, 0), 0);
        times(x, 0, 0, 1000, 1000, 1000);
        fails("35 no more ahead of range", REFUSED, () -> x.attempt(0, 0, 0, 0, 0, false));
        x.close(0, 0);
        fails("35 closed", REFUSED, () -> x.attempt(0, 1, 0, 1000, 0, false));
        x.undo(0);
        fails("35 undone", REFUSED, () -> x.attempt(0, 1, 0, 1000, 0, false));
        TurnFace y = competing(1, '5', 0, 0);
        times(y, 0, 0, 1, 2, 3, 4, 5);
        fails("35 six", REFUSED, () -> y.attempt(0, 0, 0, 6, 0, false));
        due("38 five", y.attempts(0, 0), 5);
        fails("38 round", INDEX, () -> y.attempts(1, 0));
        fails("38 competitor", INDEX, () -> y.attempts(0, 1));
    }

    private static void limits() {
        TurnFace x = competing(3, '5', 3000, 0);
        due("35 within", x.attempt(0, 0, 0, 1000, 0, false), 1000);
        due("35 pop counts its time", x.attempt(0, 0, 0, 1000, 0, true), 0);
        due("35 up to the limit", x.attempt(0, 0, 0, 800, 10, false), 1000);
        due("35 above", x.attempt(0, 0, 0, 1, 0, false), 0);
        due("35 by the penalty", x.attempt(0, 1, 1600, 2900, 0, false), 0);
        due("35 all behind it", x.attempt(0, 1, 0, 50, 0, false), 0);
        due("35 a pop beyond", x.attempt(0, 2, 0, 3500, 0, true), 0);
        due("35 behind it", x.attempt(0, 2, 0, 1, 0, false), 0);
        TurnFace y = competing(1, 'b', 100, 0);
        due("35 limit in b", y.attempt(0, 0, 0, 101, 0, false), 0);
        due("35 limit in b, behind", y.attempt(0, 0, 0, 1, 0, false), 0);
        TurnFace w = competing(1, 'b', 1, 0);
        due("35 limit of 1", w.attempt(0, 0, 0, 1, 0, false), 1);
        due("35 limit of 1, behind", w.attempt(0, 0, 0, 1, 0, false), 0);
        TurnFace z = competing(1, 'm', 100, 0);
        due("37 no limit in m", z.several(0, 0, 2, 2, 5000), 2);
    }

    private static void cutoffs() {
        TurnFace x = competing(4, '5', 0, 1000);
        times(x, 0, 0, 1000, 999, 3000, 3000, 3000);
        due("35 second below", x.attempts(0, 0), 5);
        times(x, 0, 1, 999, 1000, 3000);
        due("35 first below", x.attempts(0, 1), 3);
        times(x, 0, 2, 1000, 1000);
        fails("35 none below", REFUSED, () -> x.attempt(0, 2, 0, 500, 0, false));
        times(x, 0, 3, -500, -600);
        fails("35 none with a result", REFUSED, () -> x.attempt(0, 3, 0, 500, 0, false));
        fails("40 not all made", MISSING, () -> x.average(0, 2));
        TurnFace y = competing(2, '3', 0, 1000);
        times(y, 0, 0, 1000);
        fails("35 three, none below", REFUSED, () -> y.attempt(0, 0, 0, 500, 0, false));
        times(y, 0, 1, 999, 2000, 2000);
        due("35 three, below", y.attempts(0, 1), 3);
        TurnFace w = competing(1, '3', 0, 2);
        times(w, 0, 0, 1, 1, 1);
        due("35 three, least below", w.attempts(0, 0), 3);
        TurnFace z = competing(1, 'b', 0, 1000);
        times(z, 0, 0, 2000, 2000, 2000);
        due("35 no cut-off in b", z.attempts(0, 0), 3);
    }

    private static void moves() {
        TurnFace x = four();
        x.competitor(0);
        x.round('f', 0, 0);
        x.round('b', 0, 0);
        fails("36 round", INDEX, () -> x.moves(2, 0, 0));
        fails("36 competitor", INDEX, () -> x.moves(0, 1, 0));
        fails("36 puzzle", INDEX, () -> x.moves(0, 0, 1));
        fails("36 puzzle ahead of format", INDEX, () -> x.moves(1, 0, 1));
        fails("36 format", REFUSED, () -> x.moves(1, 0, 0));
        due("36 empty", x.moves(0, 0, 0), 0);
        x.turn(0, 'A', 2);
        x.turn(0, 'B', 1);
        typeAll(x, "BA-A-");
        due("36 in turns", x.moves(0, 0, 0), 2);
        due("36 state stays", pieces(x, 0, 4), "1230");
        typeAll(x, "BABB-");
        due("36 longer", x.moves(0, 0, 0), 3);
        fails("36 no more", REFUSED, () -> x.moves(0, 0, 0));
        due("39 fewest", x.best(0, 0), 2);
        x.competitor(0);
        typeAll(x, "C");
        due("36 ring", x.moves(0, 1, 0), 0);
        typeAll(x, "<");
        due("36 no word", x.moves(0, 1, 0), 0);
        typeAll(x, "B");
        due("36 not solved", x.moves(0, 1, 0), 0);
        fails("39 none", MISSING, () -> x.best(0, 1));
        due("38", x.attempts(0, 1), 3);
        x.competitor(0);
        x.close(0, 0);
        fails("36 closed", REFUSED, () -> x.moves(0, 2, 0));
        TurnFace y = four();
        y.competitor(0);
        y.round('f', 0, 0);
        typeAll(y, "AA-");
        due("36 not scrambled", y.moves(0, 0, 0), 1);
    }

    private static void several() {
        int[][] told = {{2, 2, 2}, {2, 1, -1}, {2, 0, -1}, {3, 2, 1}, {3, 1, -1}, {4, 2, 0}, {4, 1, -1}, {60, 60, 60}, {60, 30, 0}, {60, 29, -1}};
        for (int[] row : told) {
            TurnFace x = competing(1, 'm', 0, 0);
            due("37 " + row[0] + " " + row[1], x.several(0, 0, row[0], row[1], 359999), row[2]);
            fails("37 no more ahead of range", REFUSED, () -> x.several(0, 0, 1, 1, 1));
            due("38 one", x.attempts(0, 0), 1);
            if (row[2] < 0) {
                fails("39 none", MISSING, () -> x.best(0, 0));
            } else {
                due("39 points", x.best(0, 0), row[2]);
            }
            due("46", x.resultShare(), row[2] < 0 ? 0.0f : 1.0f);
        }
        TurnFace x = competing(1, 'm', 0, 0);
        x.round('b', 0, 0);
        fails("37 round", INDEX, () -> x.several(2, 0, 2, 2, 1));
        fails("37 competitor", INDEX, () -> x.several(0, 1, 2, 2, 1));
        fails("37 format", REFUSED, () -> x.several(1, 0, 1, 1, 1));
        fails("37 tried", RANGE, () -> x.several(0, 0, 1, 1, 1));
        fails("37 tried", RANGE, () -> x.several(0, 0, 61, 1, 1));
        fails("37 solved", RANGE, () -> x.several(0, 0, 2, 3, 1));
        fails("37 solved", RANGE, () -> x.several(0, 0, 2, -1, 1));
        fails("37 time", RANGE, () -> x.several(0, 0, 2, 2, 0));
        fails("37 time", RANGE, () -> x.several(0, 0, 2, 2, 360000));
        x.close(0, 0);
        fails("37 closed", REFUSED, () -> x.several(0, 0, 2, 2, 1));
    }

    private static void bestAndAverage() {
        int[][] fives = {
            {1000, 1001, 1001, 1000, 900, 1000}, {1000, 1001, 1001, 3000, 900, 1001}, {1000, 1000, 1001, 3000, 900, 1000},
            {-1, 1000, 1001, 1002, 900, 1001}, {-1, -2, 1000, 1000, 1000, -1}, {5, 5, 5, 5, 5, 5}, {1, 1, 1, 2, 3, 1},
            {1000, 1001, -9, 1001, 900, 1001}, {1000, 1000, 1001, -9, 900, 1000}, {-1, 1, 2, 2, 1, 2},
        };
        for (int[] row : fives) {
            TurnFace x = competing(1, '5', 0, 0);
            times(x, 0, 0, row[0], row[1], row[2], row[3]);
            fails("40 four", MISSING, () -> x.average(0, 0));
            times(x, 0, 0, row[4]);
            if (row[5] < 0) {
                fails("40 two without", MISSING, () -> x.average(0, 0));
            } else {
                due("40 five", x.average(0, 0), row[5]);
            }
        }
        TurnFace x = competing(3, '3', 0, 0);
        times(x, 0, 0, 1000, 1000, 1001);
        due("40 three down", x.average(0, 0), 1000);
        times(x, 0, 1, 1000, 1001, 1001);
        due("40 three up", x.average(0, 1), 1001);
        times(x, 0, 2, 1000, -1, 900);
        fails("40 one without", MISSING, () -> x.average(0, 2));
        due("39", x.best(0, 2), 900);
        TurnFace y = competing(2, 'b', 0, 0);
        times(y, 0, 0, 1200, 1100, 1300);
        due("39 of three", y.best(0, 0), 1100);
        fails("40 format", REFUSED, () -> y.average(0, 0));
        fails("40 format ahead of none", REFUSED, () -> y.average(0, 1));
        fails("39 no attempt", MISSING, () -> y.best(0, 1));
        fails("39 round", INDEX, () -> y.best(1, 0));
        fails("39 competitor", INDEX, () -> y.best(0, 2));
        fails("40 round", INDEX, () -> y.average(-1, 0));
        fails("40 competitor", INDEX, () -> y.average(0, 2));
    }

    private static void ranks() {
        TurnFace x = competing(9, '5', 0, 0);
        times(x, 0, 0, 1000, 1000, 1000, 1000, 1000);
        times(x, 0, 1, 900, 1000, 1000, 1000, 1000);
        times(x, 0, 2, 1100, 1000, 1000, 1000, 1000);
        times(x, 0, 3, 500, 500);
        times(x, 0, 4, -500, -500, 600, 600, 600);
        times(x, 0, 5, -500);
        times(x, 0, 6, -9, -9, -9, -9, -9);
        times(x, 0, 7, -1, 5000, 5000, 5000, 5000);
        int[] ranks = {2, 1, 2, 5, 6, 7, 7, 4};
        for (int i = 0; i < ranks.length; i++) {
            due("41 five " + i, x.rank(0, i), ranks[i]);
        }
        fails("41 no attempt", MISSING, () -> x.rank(0, 8));
        fails("41 round", INDEX, () -> x.rank(1, 0));
        fails("41 competitor", INDEX, () -> x.rank(0, 9));
        TurnFace y = competing(3, 'b', 0, 0);
        times(y, 0, 0, 3000, 1000);
        times(y, 0, 1, 1001, 1001, 1001);
        times(y, 0, 2, 1000);
        due("41 best", y.rank(0, 0), 1);
        due("41 best", y.rank(0, 1), 3);
        due("41 best", y.rank(0, 2), 1);
    }

    private static void ranksOfSeveral() {
        TurnFace x = competing(9, 'm', 0, 0);
        x.several(0, 0, 4, 4, 500);
        x.several(0, 1, 6, 5, 400);
        x.several(0, 2, 4, 4, 400);
        x.several(0, 3, 6, 5, 400);
        x.several(0, 4, 3, 3, 1);
        x.several(0, 5, 4, 2, 1);
        x.several(0, 6, 2, 1, 1);
        x.several(0, 7, 9, 1, 2);
        int[] ranks = {4, 2, 1, 2, 5, 6, 7, 7};
        for (int i = 0; i < ranks.length; i++) {
            due("41 several " + i, x.rank(0, i), ranks[i]);
        }
        fails("41 several, no attempt", MISSING, () -> x.rank(0, 8));
        TurnFace y = competing(4, 'm', 0, 0);
        y.several(0, 0, 4, 4, 500);
        y.several(0, 1, 6, 5, 400);
        due("41 time ahead of unsolved", y.rank(0, 0), 2);
        due("41 time ahead of unsolved", y.rank(0, 1), 1);
        y.several(0, 2, 2, 1, 1);
        y.several(0, 3, 2, 0, 2);
        expectAdvancing("42 several, alike without a result", y, 12, "yynn");
        TurnFace z = competing(3, 'm', 0, 0);
        z.several(0, 0, 4, 2, 300);
        z.several(0, 1, 4, 2, 200);
        z.several(0, 2, 6, 3, 200);
        due("41 no points, by time", z.rank(0, 0), 3);
        due("41 no points, by time", z.rank(0, 1), 1);
        due("41 no points, by unsolved", z.rank(0, 2), 2);
    }

    private static void advances() {
        TurnFace x = competing(6, 'b', 0, 0);
        expectAdvancing("42 nobody", x, 12, "nnnnnn");
        times(x, 0, 0, 1000);
        expectAdvancing("42 one alone", x, 12, "nnnnnn");
        times(x, 0, 1, 900);
        expectAdvancing("42 half", x, 12, "nynnnn");
        times(x, 0, 2, 800);
        times(x, 0, 3, 1100);
        times(x, 0, 4, -1);
        expectAdvancing("42 none", x, 0, "nnnnnn");
        expectAdvancing("42 one", x, 1, "nnynnn");
        expectAdvancing("42 two", x, 2, "nyynnn");
        expectAdvancing("42 three", x, 3, "yyynnn");
        expectAdvancing("42 three quarters, cut", x, 4, "yyynnn");
        expectAdvancing("42 twelve", x, 12, "yyynnn");
        fails("42 low", RANGE, () -> x.advances(0, 0, -1));
        fails("42 high", RANGE, () -> x.advances(0, 0, 13));
        fails("42 round", INDEX, () -> x.advances(1, 0, 13));
        fails("42 competitor", INDEX, () -> x.advances(0, 6, -1));
    }

    private static void advancesAlike() {
        TurnFace x = competing(8, 'b', 0, 0);
        int[] told = {900, 1000, 1000, 1000, 1100, 1200, -1, -1};
        for (int i = 0; i < 8; i++) {
            times(x, 0, i, told[i]);
        }
        expectAdvancing("42 one", x, 1, "ynnnnnnn");
        expectAdvancing("42 two, all alike", x, 2, "yyyynnnn");
        expectAdvancing("42 three, all alike", x, 3, "yyyynnnn");
        expectAdvancing("42 four", x, 4, "yyyynnnn");
        expectAdvancing("42 six", x, 6, "yyyyyynn");
        expectAdvancing("42 cut", x, 12, "yyyyyynn");
        TurnFace y = competing(5, 'b', 0, 0);
        int[] alike = {900, 1000, 1000, 1000, 1100};
        for (int i = 0; i < 5; i++) {
            times(y, 0, i, alike[i]);
        }
        expectAdvancing("42 too many alike", y, 2, "ynnnn");
        expectAdvancing("42 too many alike", y, 12, "ynnnn");
        TurnFace z = competing(4, 'b', 0, 0);
        int[] none = {900, -1, -1, -1};
        for (int i = 0; i < 4; i++) {
            times(z, 0, i, none[i]);
        }
        expectAdvancing("42 without a result alike", z, 3, "ynnn");
        TurnFace w = competing(4, 'b', 0, 0);
        int[] last = {900, 950, -1, 960};
        for (int i = 0; i < 3; i++) {
            times(w, 0, i, last[i]);
        }
        w.competitor(0);
        expectAdvancing("42 with or without a result", w, 12, "yynn");
        TurnFace v = competing(4, 'b', 0, 0);
        int[] two = {-1, -1, -1, 900};
        for (int i = 0; i < 4; i++) {
            times(v, 0, i, two[i]);
        }
        expectAdvancing("42 many without a result", v, 2, "nnny");
    }

    private static void close() {
        TurnFace x = competing(3, '5', 0, 0);
        x.round('m', 0, 0);
        x.round('b', 0, 0);
        times(x, 0, 0, 1000);
        times(x, 0, 2, -1000);
        fails("43 round", INDEX, () -> x.close(3, 1000));
        fails("43 low", RANGE, () -> x.close(0, -1));
        fails("43 high", RANGE, () -> x.close(0, 1000));
        due("43", x.close(0, 10), 2);
        fails("43 range ahead of closed", RANGE, () -> x.close(0, 9));
        fails("43 closed", REFUSED, () -> x.close(0, 10));
        fails("43 ahead of the last", RANGE, () -> x.close(1, 9));
        due("44", x.undo(0), 1);
        fails("43 ahead of the last, undone", RANGE, () -> x.close(1, 9));
        fails("43 undone", REFUSED, () -> x.close(0, 11));
        due("43 same day", x.close(1, 10), 0);
        due("43 last day", x.close(2, 999), 0);
    }

    private static TurnFace regions() {
        TurnFace x = new TurnFace();
        x.competitor(1);
        x.competitor(1);
        x.competitor(2);
        for (int i = 0; i < 4; i++) {
            x.round('5', 0, 0);
        }
        return x;
    }

    private static void records() {
        TurnFace x = regions();
        x.round('3', 0, 0);
        times(x, 0, 0, 1000, 1100, 1200, 1300, 1400);
        times(x, 0, 1, 900, 1500, 1500, 1500, 1500);
        times(x, 0, 2, 2000, 2000);
        due("45 not closed", x.isRecord(0, 1, false), false);
        x.close(0, 5);
        due("45 single", x.isRecord(0, 1, false), true);
        due("45 slower single", x.isRecord(0, 0, false), false);
        due("45 average", x.isRecord(0, 0, true), true);
        due("45 slower average", x.isRecord(0, 1, true), false);
        due("45 another region", x.isRecord(0, 2, false), true);
        due("45 no average", x.isRecord(0, 2, true), false);
        due("45 no attempt", x.isRecord(1, 0, false), false);
        times(x, 4, 0, 1, 1, 1);
        x.close(4, 5);
        due("45 other format", x.isRecord(4, 0, false), false);
        due("45 other format, average", x.isRecord(4, 0, true), false);
        due("45 untouched by it", x.isRecord(0, 1, false), true);
        fails("45 round", INDEX, () -> x.isRecord(5, 0, false));
        fails("45 competitor", INDEX, () -> x.isRecord(0, 3, true));
    }

    private static void recordsOfDays() {
        TurnFace x = regions();
        times(x, 0, 0, 1000);
        times(x, 1, 1, 1000);
        times(x, 2, 0, 1000);
        times(x, 2, 1, 999);
        times(x, 3, 1, 998);
        x.close(0, 5);
        x.close(1, 5);
        due("45 shared", x.isRecord(0, 0, false), true);
        due("45 shared", x.isRecord(1, 1, false), true);
        x.close(2, 6);
        due("45 as good as earlier days", x.isRecord(2, 0, false), false);
        due("45 better", x.isRecord(2, 1, false), true);
        due("45 of its day still", x.isRecord(0, 0, false), true);
        x.close(3, 6);
        due("45 taken on the same day", x.isRecord(2, 1, false), false);
        due("45 better on the same day", x.isRecord(3, 1, false), true);
    }

    private static void undo() {
        TurnFace x = regions();
        fails("44 round", INDEX, () -> x.undo(4));
        fails("44 not closed", REFUSED, () -> x.undo(0));
        times(x, 0, 0, 1000, 1000, 1000, 1000, 1000);
        times(x, 0, 1, 1000, 1000, 1000, 1000, 1001);
        times(x, 0, 2, 3000);
        times(x, 1, 1, 1100, 1100, 1100, 1100, 1100);
        x.close(0, 1);
        x.close(1, 2);
        due("45 beaten", x.isRecord(1, 1, false), false);
        due("44 five records", x.undo(0), 5);
        fails("44 undone", REFUSED, () -> x.undo(0));
        due("45 of an undone round", x.isRecord(0, 0, true), false);
        due("45 an undone round bars none", x.isRecord(1, 1, false), true);
        due("45 an undone round bars none", x.isRecord(1, 1, true), true);
        due("44 results stay", x.best(0, 0), 1000);
        due("44 results stay", x.average(0, 1), 1000);
        due("44 results stay", x.attempts(0, 2), 1);
        due("44 two records", x.undo(1), 2);
        x.close(2, 2);
        due("44 none", x.undo(2), 0);
    }

    private static void resultShare() {
        TurnFace x = competing(2, '5', 0, 0);
        fails("46 none", ArithmeticException.class, () -> x.resultShare());
        times(x, 0, 0, -1000);
        due("46 no result", x.resultShare(), 0.0f);
        times(x, 0, 0, 1000, 1000);
        due("46 two of three", x.resultShare(), 2.0f / 3.0f);
        TurnFace y = competing(1, 'b', 0, 0);
        times(y, 0, 0, 1);
        due("46 least result", y.resultShare(), 1.0f);
        x.round('m', 0, 0);
        x.several(1, 0, 4, 2, 1);
        x.several(1, 1, 4, 1, 1);
        due("46 no points are a result", x.resultShare(), 3.0f / 5.0f);
        x.round('f', 0, 0);
        x.puzzle(3);
        x.moves(2, 0, 0);
        due("46 of all rounds", x.resultShare(), 3.0f / 6.0f);
        x.close(0, 0);
        x.undo(0);
        due("46 undone too", x.resultShare(), 3.0f / 6.0f);
    }

    private static void checksum() {
        TurnFace x = new TurnFace();
        due("48 none", x.checksum(), 7);
        x.puzzle(3);
        due("48 one", x.checksum(), 31L * (31L * (31L * (31L * 7 + 0) + 1) + 2) + 1);
        addRing(x, 0, 1, 0, 1, 2);
        x.turn(0, 'A', 1);
        long sum = 31L * (31L * (31L * (31L * 7 + 2) + 0) + 1) + 3;
        due("48 turned", x.checksum(), sum);
        x.puzzle(4);
        sum = 31L * (31L * (31L * (31L * (31L * sum + 0) + 1) + 2) + 3) + 1;
        due("48 two", x.checksum(), sum);
    }

    private static void isSound() {
        TurnFace x = four();
        due("49", x.isSound(), true);
        x.colour(0, 0, 1);
        x.puzzle(10);
        addRing(x, 1, 1, 0, 1, 2, 3, 4, 5, 6, 7);
        addRing(x, 1, 1, 7, 8, 9);
        for (int i = 0; i < 12; i++) {
            x.competitor(0);
        }
        x.round('b', 0, 0);
        for (int i = 0; i < 12; i++) {
            times(x, 0, i, 100 + i / 5);
        }
        x.swap(0, 0, 3);
        due("49 with much", x.isSound(), true);
        due("49 changes nothing", pieces(x, 0, 4), "3120");
    }

    private static void nothingChanges() {
        TurnFace x = four();
        x.turn(0, 'A', 1);
        long sum = x.checksum();
        fails("refused", RANGE, () -> x.turn(0, 'C', 1));
        fails("refused", RANGE, () -> x.swap(0, 0, 4));
        fails("refused", MISSING, () -> x.toNumber(0, 24));
        fails("refused", RANGE, () -> x.scramble(0, -1));
        fails("refused", RANGE, () -> x.puzzle(2));
        x.typePlace(0);
        x.typePlace(9);
        fails("refused", RANGE, () -> x.ring(0, 1));
        due("refused, places stay", x.wipePlaces(), 2);
        due("refused, sum stays", x.checksum(), sum);
        fails("refused", RANGE, () -> x.colour(0, 0, 10));
        due("refused, colour stays", x.colour(0, 0, 0), 0);
        typeAll(x, "A");
        fails("refused", RANGE, () -> x.type('x'));
        due("refused, signs stay", x.wipe(), 1);
        x.competitor(0);
        x.round('5', 0, 0);
        fails("refused", RANGE, () -> x.close(0, 1000));
        due("refused, day stays", x.close(0, 0), 0);
    }
}
