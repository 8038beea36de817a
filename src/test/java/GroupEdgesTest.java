import java.math.BigInteger;

/** Promises 12 to 21, groups: each boundary that a sentence names, by itself. */
public final class GroupEdgesTest extends Lab {
    public static void main(String[] args) throws IllegalAccessException {
        runEdges(GroupEdgesTest.class);
    }

    private static void needsPuzzle(Ask one, Ask behind, Ask ahead) {
        refused("none", INDEX, TurnFace::new, one);
        refused("1 of one", INDEX, Lab::four, behind);
        refused("-1", INDEX, Lab::four, ahead);
    }

    /** Two rings that share nothing, so that four states are in the group. */
    private static TurnFace apart() {
        TurnFace x = bare(6);
        addRing(x, 0, 1, 1, 2);
        addRing(x, 0, 1, 3, 4);
        return x;
    }

    // ---- promise 12: order

    @Edge(promise = 12, says = "Throws `IndexOutOfBoundsException` if there is no such puzzle")
    static void orderWithoutPuzzle() {
        needsPuzzle(x -> x.order(0), x -> x.order(1), x -> x.order(-1));
        refused("the greatest", INDEX, Lab::four, x -> x.order(MOST));
        refused("the least", INDEX, Lab::four, x -> x.order(LEAST));
    }

    @Edge(promise = 12, says = "The group of a puzzle are all states that turns make from the first one.")
    static void leastOrder() {
        due("three places, no ring", bare(3).order(0), 1);
        due("ten places, no ring", bare(10).order(0), 1);
        due("a ring of two", bareRing(3, 1, 0, 1).order(0), 2);
    }

    private static TurnFace bareRing(int places, int step, int... row) {
        TurnFace x = bare(places);
        addRing(x, 0, step, row);
        return x;
    }

    @Edge(promise = 12, says = "Its order is their number.")
    static void ordersOfOneRing() {
        int[] orders = {8, 4, 8, 2, 8, 4, 8};
        for (int step = 1; step <= 7; step++) {
            due("step " + step + " of 8", ringed(8, step).order(0), orders[step - 1]);
        }
        due("step 2 of 6", ringed(6, 2).order(0), 3);
        due("step 3 of 6", ringed(6, 3).order(0), 2);
        due("step 4 of 7", ringed(7, 4).order(0), 7);
    }

    @Edge(promise = 12, says = "Its order is their number.")
    static void greatestOrder() {
        due("all states of ten places", ten().order(0), 3628800);
        TurnFace x = bare(10);
        addRing(x, 0, 1, 0, 1, 2, 3, 4, 5, 6);
        addRing(x, 0, 1, 6, 7, 8, 9, 0);
        due("half of them", x.order(0), 1814400);
        addRing(x, 0, 1, 5, 2);
        due("all of them", x.order(0), 3628800);
    }

    @Edge(promise = 12, says = "Its order is their number.")
    static void orderGrowsByRings() {
        TurnFace x = bare(5);
        int[] orders = {2, 6, 24, 120};
        for (int i = 0; i < 4; i++) {
            addRing(x, 0, 1, i, i + 1);
            due("ring " + i, x.order(0), orders[i]);
        }
        TurnFace z = bare(5);
        for (int i = 0; i < 4; i++) {
            addRing(z, 0, 1, 3 - i, 4 - i);
            due("ring " + i + ", from the end", z.order(0), orders[i]);
        }
        TurnFace y = four();
        addRing(y, 0, 2, 0, 1, 2);
        due("a ring that adds nothing", y.order(0), 24);
    }

    // ---- promise 13: isIn

    @Edge(promise = 13, says = "Throws `IndexOutOfBoundsException` if there is no such puzzle")
    static void isInWithoutPuzzle() {
        needsPuzzle(x -> x.isIn(0), x -> x.isIn(1), x -> x.isIn(-1));
    }

    @Edge(promise = 13, says = "A state as pieces by places is in it, or is not.")
    static void onlyTheFirstWithoutRings() {
        TurnFace x = bare(3);
        due("the first", x.isIn(0), true);
        x.swap(0, 1, 2);
        due("another", x.isIn(0), false);
    }

    @Edge(promise = 13, says = "A state as pieces by places is in it, or is not.")
    static void piecesThatStayAside() {
        TurnFace x = apart();
        x.turn(0, 'A', 1);
        due("turned", x.isIn(0), true);
        x.swap(0, 0, 5);
        due("those aside swapped", x.isIn(0), false);
        x.swap(0, 0, 5);
        x.swap(0, 2, 3);
        due("from one row into another", x.isIn(0), false);
    }

    @Edge(promise = 13, says = "so states can be made that no turns make")
    static void oddAmongEvenOnes() {
        TurnFace x = ringed(3, 1);
        x.swap(0, 0, 1);
        due("one swap", x.isIn(0), false);
        x.swap(0, 1, 2);
        due("two swaps", x.isIn(0), true);
    }

    @Edge(promise = 13, says = "A state as pieces by places is in it, or is not.")
    static void notByColours() {
        TurnFace x = bare(3);
        x.colour(0, 1, 0);
        x.swap(0, 0, 1);
        due("solved", x.isSolved(0), true);
        due("but not in", x.isIn(0), false);
    }

    // ---- promise 14: centre

    @Edge(promise = 14, says = "Throws `IndexOutOfBoundsException` if there is no such puzzle")
    static void centreWithoutPuzzle() {
        needsPuzzle(x -> x.centre(0), x -> x.centre(1), x -> x.centre(-1));
    }

    @Edge(promise = 14, says = "Throws `UnsupportedOperationException` if it is not small")
    static void centreOfASmallOne() {
        due("768", ofOrder768().centre(0), 4);
        refused("864", REFUSED, Lab::ofOrder864, x -> x.centre(0));
        refused("3628800", REFUSED, Lab::ten, x -> x.centre(0));
    }

    @Edge(promise = 14, says = "Its centre are those states that, as rearrangements, change places with all others, whichever is done first.")
    static void centreOfOneAndOfAll() {
        due("no ring", bare(3).centre(0), 1);
        due("one ring, all of it", ringed(8, 1).centre(0), 8);
        due("rings apart, all of it", apart().centre(0), 4);
        due("all 24 states, the first alone", four().centre(0), 1);
        TurnFace x = ringed(4, 1);
        addRing(x, 0, 1, 0, 2);
        due("a square, half a turn too", x.centre(0), 2);
    }

    @Edge(promise = 14, says = "A small puzzle has an order of at most 800.")
    static void smallNoMoreByARing() {
        TurnFace x = bare(7);
        addRing(x, 0, 1, 0, 1, 2, 3, 4, 5);
        addRing(x, 0, 1, 0, 1);
        due("720", x.centre(0), 1);
        addRing(x, 0, 1, 5, 6);
        fails("5040", REFUSED, () -> x.centre(0));
    }

    // ---- promise 15: kinds

    @Edge(promise = 15, says = "Throws `IndexOutOfBoundsException` if there is no such puzzle")
    static void kindsWithoutPuzzle() {
        needsPuzzle(x -> x.kinds(0), x -> x.kinds(1), x -> x.kinds(-1));
    }

    @Edge(promise = 15, says = "Throws `UnsupportedOperationException` if it is not small")
    static void kindsOfASmallOne() {
        due("768", ofOrder768().kinds(0), 768);
        refused("864", REFUSED, Lab::ofOrder864, x -> x.kinds(0));
    }

    @Edge(promise = 15, says = "The kinds of states are how many unlike rows of colours by places its states show.")
    static void oneKindToAsManyAsStates() {
        TurnFace x = four();
        due("all unlike", x.kinds(0), 24);
        int[] kinds = {24, 12, 4, 1};
        for (int place = 0; place < 4; place++) {
            x.colour(0, place, 8);
            due((place + 1) + " of that colour", x.kinds(0), kinds[place]);
        }
        due("no ring", bare(3).kinds(0), 1);
    }

    @Edge(promise = 15, says = "The kinds of states are how many unlike rows of colours by places its states show.")
    static void alikeAcrossRings() {
        TurnFace x = apart();
        x.colour(0, 0, 1);
        x.colour(0, 3, 1);
        due("alike, but never in each other's place", x.kinds(0), 4);
        x.colour(0, 2, 1);
        due("alike in one ring", x.kinds(0), 2);
        x.swap(0, 0, 5);
        due("whatever state it has", x.kinds(0), 2);
    }

    // ---- promise 16: isOdd

    @Edge(promise = 16, says = "Throws `IndexOutOfBoundsException` if there is no such puzzle")
    static void isOddWithoutPuzzle() {
        needsPuzzle(x -> x.isOdd(0), x -> x.isOdd(1), x -> x.isOdd(-1));
    }

    @Edge(promise = 16, says = "A puzzle is odd if some turn is an odd number of swaps.")
    static void oddBySteps() {
        boolean[] odd = {true, false, true, false, true, false, true};
        for (int step = 1; step <= 7; step++) {
            due("step " + step + " of 8", ringed(8, step).isOdd(0), odd[step - 1]);
        }
        due("step 2 of 6", ringed(6, 2).isOdd(0), false);
        due("step 3 of 6, three swaps", ringed(6, 3).isOdd(0), true);
        due("step 1 of 7", ringed(7, 1).isOdd(0), false);
        due("step 1 of 2", bareRing(3, 1, 1, 2).isOdd(0), true);
    }

    @Edge(promise = 16, says = "if some turn is an odd number of swaps")
    static void noneOneOrAllOdd() {
        due("no ring", bare(3).isOdd(0), false);
        TurnFace x = bare(9);
        addRing(x, 0, 1, 0, 1, 2);
        addRing(x, 0, 1, 2, 3, 4);
        addRing(x, 0, 1, 4, 5, 6);
        due("three even ones", x.isOdd(0), false);
        addRing(x, 0, 1, 7, 8);
        due("the last one of four", x.isOdd(0), true);
        TurnFace y = bareRing(5, 1, 0, 1);
        addRing(y, 0, 1, 2, 3, 4);
        due("the first one of two", y.isOdd(0), true);
        due("all", fourRings().isOdd(0), true);
    }

    @Edge(promise = 16, says = "A puzzle is odd if some turn is an odd number of swaps.")
    static void whateverItsState() {
        TurnFace x = ringed(3, 1);
        x.swap(0, 0, 1);
        due("an odd state of an even puzzle", x.isOdd(0), false);
    }

    // ---- promise 17: orbits

    @Edge(promise = 17, says = "Throws `IndexOutOfBoundsException` if there is no such puzzle")
    static void orbitsWithoutPuzzle() {
        needsPuzzle(x -> x.orbits(0), x -> x.orbits(1), x -> x.orbits(-1));
    }

    @Edge(promise = 17, says = "Returns how many rows of places there are between which pieces can go, places that stay aside.")
    static void noneToFiveRows() {
        due("no ring", bare(10).orbits(0), 0);
        due("one of two places", bareRing(10, 1, 8, 9).orbits(0), 1);
        due("one of ten places", ten().orbits(0), 1);
        TurnFace x = ringed(10, 4);
        due("four by one ring", x.orbits(0), 4);
        addRing(x, 0, 1, 8, 9);
        due("five", x.orbits(0), 5);
    }

    @Edge(promise = 17, says = "between which pieces can go")
    static void rowsThatAreJoined() {
        TurnFace x = bare(9);
        addRing(x, 0, 1, 0, 1);
        addRing(x, 0, 1, 7, 8);
        due("apart", x.orbits(0), 2);
        addRing(x, 0, 1, 3, 4);
        due("one more", x.orbits(0), 3);
        addRing(x, 0, 1, 8, 4, 0);
        due("joined", x.orbits(0), 1);
    }

    @Edge(promise = 17, says = "between which pieces can go")
    static void rowsByStep() {
        due("step 2 of 8", ringed(8, 2).orbits(0), 2);
        due("step 3 of 8", ringed(8, 3).orbits(0), 1);
        due("step 3 of 6", ringed(6, 3).orbits(0), 3);
        due("step 5 of 7", ringed(7, 5).orbits(0), 1);
    }

    @Edge(promise = 17, says = "between which pieces can go")
    static void farRowsThatMeetLast() {
        TurnFace x = bare(10);
        addRing(x, 0, 1, 9, 8);
        addRing(x, 0, 2, 8, 7, 6, 5);
        addRing(x, 0, 2, 7, 4, 5, 3);
        addRing(x, 0, 1, 6, 5);
        due("a chain of five and a pair", x.orbits(0), 2);
    }

    // ---- promise 18: period

    @Edge(promise = 18, says = "Throws `IndexOutOfBoundsException` if there is no such puzzle")
    static void periodWithoutPuzzle() {
        needsPuzzle(x -> x.period(0), x -> x.period(1), x -> x.period(-1));
    }

    @Edge(promise = 18, says = "Returns the least number, 1 at least.")
    static void leastAndGreatestPeriod() {
        TurnFace x = bare(10);
        due("the first state", x.period(0), 1);
        x.swap(0, 0, 1);
        due("a swap", x.period(0), 2);
        x.swap(0, 2, 3);
        x.swap(0, 4, 5);
        due("three swaps", x.period(0), 2);
        x.reset(0);
        swapAlong(x, 0, 1);
        swapAlong(x, 2, 4);
        swapAlong(x, 5, 9);
        due("of 2, 3 and 5 places", x.period(0), 30);
    }

    /** Pieces of a row of places go around in it. */
    private static void swapAlong(TurnFace x, int first, int last) {
        for (int piece = first; piece < last; piece++) {
            x.swap(0, piece, piece + 1);
        }
    }

    @Edge(promise = 18, says = "makes the first one")
    static void periodsOfOneRow() {
        for (int last = 1; last < 10; last++) {
            TurnFace x = bare(10);
            swapAlong(x, 0, last);
            due("of " + (last + 1) + " places", x.period(0), last + 1);
            due("of " + (last + 1) + " places, in the group", x.isIn(0), false);
        }
    }

    @Edge(promise = 18, says = "makes the first one")
    static void piecesNotColoursAgain() {
        TurnFace x = ringed(3, 1);
        for (int place = 0; place < 3; place++) {
            x.colour(0, place, 0);
        }
        x.turn(0, 'A', 1);
        due("of one colour", x.period(0), 3);
        due("the state stays", pieces(x, 0, 3), "201");
    }

    // ---- promise 19: numberOf

    @Edge(promise = 19, says = "Throws `IndexOutOfBoundsException` if there is no such puzzle")
    static void numberOfWithoutPuzzle() {
        needsPuzzle(x -> x.numberOf(0), x -> x.numberOf(1), x -> x.numberOf(-1));
    }

    @Edge(promise = 19, says = "Throws `NoSuchElementException` if it is not in the group")
    static void numberOfAStateOutside() {
        Maker outside = () -> {
            TurnFace x = ringed(3, 1);
            x.swap(0, 1, 2);
            return x;
        };
        refused("one swap", MISSING, outside, x -> x.numberOf(0));
        TurnFace y = outside.make();
        y.swap(0, 0, 2);
        due("two swaps", y.numberOf(0), 2);
    }

    @Edge(promise = 19, says = "All states of the group are numbered from 0")
    static void firstAndLastNumber() {
        due("no ring", bare(10).numberOf(0), 0);
        due("the first state", ten().numberOf(0), 0);
        TurnFace x = ten();
        for (int piece = 0; piece < 5; piece++) {
            x.swap(0, piece, 9 - piece);
        }
        due("the last state of all", x.numberOf(0), 3628799);
        TurnFace y = ten();
        y.swap(0, 8, 9);
        due("the second state of all", y.numberOf(0), 1);
    }

    // ---- promise 20: toNumber

    @Edge(promise = 20, says = "Throws `IndexOutOfBoundsException` if there is no such puzzle")
    static void toNumberWithoutPuzzle() {
        needsPuzzle(x -> x.toNumber(0, 0), x -> x.toNumber(1, 0), x -> x.toNumber(-1, 0));
    }

    @Edge(promise = 20, says = "Throws `NoSuchElementException` if there is no such state")
    static void numbersOutside() {
        refused("-1", MISSING, Lab::four, x -> x.toNumber(0, -1));
        refused("24 of 24", MISSING, Lab::four, x -> x.toNumber(0, 24));
        refused("1 of 1", MISSING, () -> bare(3), x -> x.toNumber(0, 1));
        refused("3628800 of as many", MISSING, Lab::ten, x -> x.toNumber(0, 3628800));
        refused("one behind all ints", MISSING, Lab::four, x -> x.toNumber(0, 1L << 32));
        refused("the greatest", MISSING, Lab::four, x -> x.toNumber(0, Long.MAX_VALUE));
        refused("the least", MISSING, Lab::four, x -> x.toNumber(0, Long.MIN_VALUE));
    }

    @Edge(promise = 20, says = "Returns how many places have another piece than as at first.")
    static void firstAndLastState() {
        TurnFace x = four();
        due("23", x.toNumber(0, 23), 4);
        due("23", pieces(x, 0, 4), "3210");
        due("0", x.toNumber(0, 0), 0);
        due("0", pieces(x, 0, 4), "0123");
        due("0 of 1", bare(3).toNumber(0, 0), 0);
        TurnFace y = ten();
        due("3628799", y.toNumber(0, 3628799), 10);
        due("3628799", pieces(y, 0, 10), "9876543210");
        due("1", y.toNumber(0, 1), 2);
        due("1", pieces(y, 0, 10), "0123456798");
    }

    @Edge(promise = 20, says = "by their pieces at the place 0, then 1, and so on, lower pieces first")
    static void allInTheirOrder() {
        String[] square = {"0123", "0321", "1032", "1230", "2103", "2301", "3012", "3210"};
        TurnFace x = ringed(4, 1);
        addRing(x, 0, 1, 0, 2);
        for (int number = 0; number < 8; number++) {
            x.toNumber(0, number);
            due("state " + number, pieces(x, 0, 4), square[number]);
            due("its number", x.numberOf(0), number);
        }
    }

    @Edge(promise = 20, says = "by their pieces at the place 0, then 1, and so on, lower pieces first")
    static void eachIsBehindTheOneAhead() {
        TurnFace x = ofOrder768();
        String before = "";
        for (int number = 0; number < 768; number += number == 3 ? 742 : 1) {
            x.toNumber(0, number);
            String row = pieces(x, 0, 10);
            due("state " + number + " behind the one ahead", before.compareTo(row) < 0, true);
            due("its number", x.numberOf(0), number);
            before = row;
        }
    }

    @Edge(promise = 20, says = "Makes a puzzle the state of a number.")
    static void fromAStateOutside() {
        TurnFace x = ringed(3, 1);
        x.swap(0, 0, 1);
        due("1", x.toNumber(0, 1), 3);
        due("1", pieces(x, 0, 3), "120");
    }

    @Edge(promise = 20, says = "If several exceptions apply, the one that is documented first is thrown.")
    static void noPuzzleAndNoState() {
        refused("no puzzle, no state", INDEX, Lab::four, x -> x.toNumber(1, 24));
        refused("no puzzle, -1", INDEX, Lab::four, x -> x.toNumber(-1, -1));
    }

    // ---- promise 21: scramble

    @Edge(promise = 21, says = "Throws `IndexOutOfBoundsException` if there is no such puzzle")
    static void scrambleWithoutPuzzle() {
        needsPuzzle(x -> x.scramble(0, 1), x -> x.scramble(1, 1), x -> x.scramble(-1, 1));
    }

    @Edge(promise = 21, says = "`seed`: 0 to 99999")
    static void lowestSeed() {
        TurnFace x = four();
        x.turn(0, 'A', 1);
        due("0", x.scramble(0, 0), 0);
        due("0", pieces(x, 0, 4), "0123");
        refused("-1", RANGE, Lab::four, y -> y.scramble(0, -1));
        refused("the least", RANGE, Lab::four, y -> y.scramble(0, LEAST));
    }

    @Edge(promise = 21, says = "Throws `IllegalArgumentException` if a number is out of range")
    static void highestSeed() {
        due("99999", ten().scramble(0, 99999), drawn(99999, 3628800));
        refused("100000", RANGE, Lab::four, y -> y.scramble(0, 100000));
        refused("the greatest", RANGE, Lab::four, y -> y.scramble(0, MOST));
    }

    private static BigInteger drawn(int seed, int order) {
        BigInteger z = BigInteger.valueOf(seed).multiply(new BigInteger("2654435761"));
        return z.xor(z.shiftRight(15)).mod(BigInteger.valueOf(order));
    }

    @Edge(promise = 21, says = "z is the seed times 2654435761, as a long, then itself in exclusive or with itself shifted right by 15")
    static void productsBeyondAnInt() {
        TurnFace x = ten();
        for (int seed : new int[] {1, 2, 3, 77, 12345, 32768, 65536, 99998}) {
            due("seed " + seed, x.scramble(0, seed), drawn(seed, 3628800));
            due("its state, seed " + seed, x.numberOf(0), drawn(seed, 3628800));
        }
    }

    @Edge(promise = 21, says = "draws the number z modulo the order")
    static void oneStateAlone() {
        TurnFace x = bare(3);
        x.swap(0, 0, 2);
        due("no ring", x.scramble(0, 99999), 0);
        due("no ring, from outside", pieces(x, 0, 3), "012");
        TurnFace y = ringed(3, 1);
        due("seed 5 of three", y.scramble(0, 5), drawn(5, 3));
    }

    @Edge(promise = 21, says = "If several exceptions apply, the one that is documented first is thrown.")
    static void noPuzzleAndNoSeed() {
        refused("no puzzle, -1", INDEX, Lab::four, x -> x.scramble(1, -1));
        refused("no puzzle, 100000", INDEX, Lab::four, x -> x.scramble(-1, 100000));
    }
}
