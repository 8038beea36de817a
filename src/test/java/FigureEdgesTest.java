import java.math.BigInteger;

/** Promises 46, 48 and 49, figures: each boundary that a sentence names, by itself; 47 is among the graphs. */
public final class FigureEdgesTest extends Lab {
    public static void main(String[] args) throws IllegalAccessException {
        runEdges(FigureEdgesTest.class);
    }

    // ---- promise 46: resultShare

    @Edge(promise = 46, says = "Throws `ArithmeticException` if there are none")
    static void shareOfNone() {
        refused("no round", ArithmeticException.class, TurnFace::new, x -> x.resultShare());
        refused("no competitor", ArithmeticException.class, () -> competing(0, '5', 0, 0), x -> x.resultShare());
        refused("no attempt", ArithmeticException.class, () -> competing(12, '5', 0, 0), x -> x.resultShare());
    }

    @Edge(promise = 46, says = "Returns their number divided by that of all, both converted to float.")
    static void shareOfNoneToAll() {
        TurnFace x = competing(1, 'b', 0, 0);
        times(x, 0, 0, -1);
        due("0 of 1", x.resultShare(), 0.0f);
        times(x, 0, 0, 1);
        due("1 of 2", x.resultShare(), 0.5f);
        times(x, 0, 0, 1);
        due("2 of 3", x.resultShare(), 2.0f / 3.0f);
        TurnFace y = competing(1, 'b', 0, 0);
        times(y, 0, 0, 1, 1, 1);
        due("3 of 3", y.resultShare(), 1.0f);
    }

    @Edge(promise = 46, says = "Returns the share of attempts with a result.")
    static void shareOfEveryFormat() {
        TurnFace x = competing(2, '5', 0, 0);
        times(x, 0, 0, 5, -5);
        x.round('m', 0, 0);
        x.several(1, 0, 4, 2, 9);
        due("0 points are a result", x.resultShare(), 2.0f / 3.0f);
        x.several(1, 1, 2, 1, 9);
        due("0 points of two tried are none", x.resultShare(), 2.0f / 4.0f);
        x.round('f', 0, 0);
        x.puzzle(3);
        x.moves(2, 0, 0);
        due("no turns are none", x.resultShare(), 2.0f / 5.0f);
        x.round('b', 5, 0);
        times(x, 3, 0, 6, 1);
        due("none by the limit", x.resultShare(), 2.0f / 7.0f);
    }

    @Edge(promise = 46, says = "Returns the share of attempts with a result.")
    static void shareOfAllRounds() {
        TurnFace x = competing(12, 'b', 0, 0);
        for (int round = 1; round < 8; round++) {
            x.round('b', 0, 0);
        }
        for (int i = 0; i < 12; i++) {
            times(x, 0, i, 1, 1, 1);
            times(x, 7, i, 1, -1, -1);
        }
        due("48 of 72", x.resultShare(), 48.0f / 72.0f);
        x.close(7, 0);
        x.undo(7);
        due("undone too", x.resultShare(), 48.0f / 72.0f);
    }

    // ---- promise 48: checksum

    @Edge(promise = 48, says = "Returns 7 at first")
    static void sumOfNone() {
        due("no puzzle", new TurnFace().checksum(), 7);
        due("rounds and words alone", competing(3, '5', 0, 0).checksum(), 7);
    }

    private static BigInteger next(BigInteger sum, long number) {
        return sum.multiply(BigInteger.valueOf(31)).add(BigInteger.valueOf(number));
    }

    @Edge(promise = 48, says = "then for each puzzle and each place 31 times itself plus the piece there, then 31 times itself plus the order, as a long")
    static void sumBeyondALong() {
        TurnFace x = new TurnFace();
        BigInteger sum = BigInteger.valueOf(7);
        for (int puzzle = 0; puzzle < 4; puzzle++) {
            x.puzzle(10);
            for (int place = 0; place < 10; place++) {
                sum = next(sum, place);
            }
            sum = next(sum, 1);
            due("after " + (puzzle + 1) + " puzzles", x.checksum(), sum.longValue());
        }
    }

    @Edge(promise = 48, says = "plus the piece there, then 31 times itself plus the order")
    static void sumOfStateAndOrder() {
        TurnFace x = ten();
        x.toNumber(0, 3628799);
        BigInteger sum = BigInteger.valueOf(7);
        for (int place = 0; place < 10; place++) {
            sum = next(sum, 9 - place);
        }
        due("the last state of all", x.checksum(), next(sum, 3628800).longValue());
        TurnFace y = bare(3);
        y.swap(0, 0, 2);
        sum = next(next(next(BigInteger.valueOf(7), 2), 1), 0);
        due("three places, no ring", y.checksum(), next(sum, 1));
    }

    // ---- promise 49: isSound

    @Edge(promise = 49, says = "Returns whether for each small puzzle the order is that of all states walked from the first one")
    static void soundWithoutAnything() {
        due("nothing", new TurnFace().isSound(), true);
        due("no ring", bare(3).isSound(), true);
        due("no attempt", competing(12, '5', 0, 0).isSound(), true);
    }

    @Edge(promise = 49, says = "each distance is one more than some neighbour's, but for solved ones")
    static void soundWithSmallAndOthers() {
        due("768", ofOrder768().isSound(), true);
        due("864", ofOrder864().isSound(), true);
        due("3628800", ten().isSound(), true);
        TurnFace x = four();
        x.swap(0, 0, 3);
        for (int place = 0; place < 4; place++) {
            x.colour(0, place, place / 2);
            due("colours, " + place, x.isSound(), true);
        }
    }

    @Edge(promise = 49, says = "and no round advances more than it may")
    static void soundWithAlikeOnes() {
        for (int alike = 1; alike <= 12; alike++) {
            TurnFace x = competing(12, 'b', 0, 0);
            for (int i = 0; i < 12; i++) {
                times(x, 0, i, i < alike ? 5 : 5 + i);
            }
            due(alike + " alike", x.isSound(), true);
        }
    }

    @Edge(promise = 49, says = "Returns whether it is so.")
    static void looksOnly() {
        TurnFace x = ofOrder768();
        x.toNumber(0, 700);
        long sum = x.checksum();
        x.isSound();
        due("the sum", x.checksum(), sum);
        due("the number", x.numberOf(0), 700);
    }
}
