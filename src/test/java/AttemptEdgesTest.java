/** Promises 33 to 38, competitors, rounds and attempts: each boundary that a sentence names, by itself. */
public final class AttemptEdgesTest extends Lab {
    public static void main(String[] args) throws IllegalAccessException {
        runEdges(AttemptEdgesTest.class);
    }

    private static int first(TurnFace x, int inspection, int time, int angle) {
        return x.attempt(0, 0, inspection, time, angle, false);
    }

    // ---- promise 33: competitor

    @Edge(promise = 33, says = "Throws `IllegalArgumentException` if a number is out of range")
    static void regions() {
        refused("-1", RANGE, TurnFace::new, x -> x.competitor(-1));
        refused("6", RANGE, TurnFace::new, x -> x.competitor(6));
        refused("the least", RANGE, TurnFace::new, x -> x.competitor(LEAST));
        refused("the greatest", RANGE, TurnFace::new, x -> x.competitor(MOST));
    }

    @Edge(promise = 33, says = "each of a region, 0 to 5")
    static void firstAndLastRegion() {
        TurnFace x = new TurnFace();
        for (int region = 0; region <= 5; region++) {
            due("region " + region, x.competitor(region), region);
        }
    }

    private static TurnFace twelve() {
        return competing(12, '5', 0, 0);
    }

    @Edge(promise = 33, says = "At most 12 competitors have numbers from 0 on")
    static void twelveCompetitors() {
        TurnFace x = new TurnFace();
        for (int i = 0; i < 12; i++) {
            due("competitor " + i, x.competitor(3), i);
        }
        x.round('b', 0, 0);
        due("the last one's attempt", x.attempt(0, 11, 0, 5, 0, false), 5);
    }

    @Edge(promise = 33, says = "Throws `IllegalStateException` if there are 12")
    static void thirteenthCompetitor() {
        refused("the thirteenth", FULL, AttemptEdgesTest::twelve, x -> x.competitor(0));
    }

    @Edge(promise = 33, says = "If several exceptions apply, the one that is documented first is thrown.")
    static void noRegionAndFull() {
        refused("6, and full", RANGE, AttemptEdgesTest::twelve, x -> x.competitor(6));
        refused("-1, and full", RANGE, AttemptEdgesTest::twelve, x -> x.competitor(-1));
    }

    // ---- promise 34: round

    @Edge(promise = 34, says = "Throws `IllegalArgumentException` if a number is out of range, or there is no such format")
    static void noSuchFormat() {
        for (char format : "2467acegln5BFM ".toCharArray()) {
            if (format != '5') {
                refused("'" + format + "'", RANGE, TurnFace::new, x -> x.round(format, 0, 0));
            }
        }
        refused("the first sign", RANGE, TurnFace::new, x -> x.round((char) 0, 0, 0));
        refused("the last sign", RANGE, TurnFace::new, x -> x.round((char) 65535, 0, 0));
        refused("the number 5", RANGE, TurnFace::new, x -> x.round((char) 5, 0, 0));
    }

    @Edge(promise = 34, says = "`format`: '5', '3', 'b', 'f' or 'm'")
    static void everyFormat() {
        for (char format : "53bfm".toCharArray()) {
            due("'" + format + "'", new TurnFace().round(format, 0, 0), 0);
        }
    }

    @Edge(promise = 34, says = "`limit`: 0 to 999999")
    static void limitsOfRounds() {
        due("0", new TurnFace().round('5', 0, 0), 0);
        due("999999", new TurnFace().round('5', 999999, 0), 0);
        refused("-1", RANGE, TurnFace::new, x -> x.round('5', -1, 0));
        refused("1000000", RANGE, TurnFace::new, x -> x.round('5', 1000000, 0));
        refused("the least", RANGE, TurnFace::new, x -> x.round('5', LEAST, 0));
        refused("the greatest", RANGE, TurnFace::new, x -> x.round('5', MOST, 0));
        refused("-1 where limits are not for", RANGE, TurnFace::new, x -> x.round('m', -1, 0));
    }

    @Edge(promise = 34, says = "`cutoff`: 0 to 59999")
    static void cutoffsOfRounds() {
        due("0", new TurnFace().round('3', 0, 0), 0);
        due("59999", new TurnFace().round('3', 0, 59999), 0);
        refused("-1", RANGE, TurnFace::new, x -> x.round('3', 0, -1));
        refused("60000", RANGE, TurnFace::new, x -> x.round('3', 0, 60000));
        refused("the least", RANGE, TurnFace::new, x -> x.round('3', 0, LEAST));
        refused("the greatest", RANGE, TurnFace::new, x -> x.round('3', 0, MOST));
        refused("60000 where there is none", RANGE, TurnFace::new, x -> x.round('f', 0, 60000));
    }

    private static TurnFace eightRounds() {
        TurnFace x = new TurnFace();
        x.competitor(0);
        for (int i = 0; i < 8; i++) {
            x.round('b', 0, 0);
        }
        return x;
    }

    @Edge(promise = 34, says = "At most 8 rounds have numbers from 0 on")
    static void numbersOfRounds() {
        TurnFace x = new TurnFace();
        x.competitor(0);
        for (int i = 0; i < 8; i++) {
            due("round " + i, x.round('b', 0, 0), i);
        }
        due("the last one's attempt", x.attempt(7, 0, 0, 5, 0, false), 5);
        due("the first one's", x.attempts(0, 0), 0);
    }

    @Edge(promise = 34, says = "Throws `IllegalStateException` if there are 8")
    static void ninthRound() {
        refused("the ninth", FULL, AttemptEdgesTest::eightRounds, x -> x.round('5', 0, 0));
    }

    @Edge(promise = 34, says = "If several exceptions apply, the one that is documented first is thrown.")
    static void outOfRangeAndFull() {
        refused("no format, and full", RANGE, AttemptEdgesTest::eightRounds, x -> x.round('x', 0, 0));
        refused("no limit, and full", RANGE, AttemptEdgesTest::eightRounds, x -> x.round('5', -1, 0));
        refused("no cut-off, and full", RANGE, AttemptEdgesTest::eightRounds, x -> x.round('5', 0, 60000));
    }

    // ---- promise 35: attempt, its numbers

    private static TurnFace best() {
        return competing(1, 'b', 0, 0);
    }

    @Edge(promise = 35, says = "Throws `IndexOutOfBoundsException` if there is no such round or competitor")
    static void noSuchRoundOrCompetitor() {
        refused("round 1 of one", INDEX, AttemptEdgesTest::best, x -> x.attempt(1, 0, 0, 1, 0, false));
        refused("round -1", INDEX, AttemptEdgesTest::best, x -> x.attempt(-1, 0, 0, 1, 0, false));
        refused("round 8 of eight", INDEX, AttemptEdgesTest::eightRounds, x -> x.attempt(8, 0, 0, 1, 0, false));
        refused("competitor 1 of one", INDEX, AttemptEdgesTest::best, x -> x.attempt(0, 1, 0, 1, 0, false));
        refused("competitor -1", INDEX, AttemptEdgesTest::best, x -> x.attempt(0, -1, 0, 1, 0, false));
        refused("competitor 12 of twelve", INDEX, AttemptEdgesTest::twelve, x -> x.attempt(0, 12, 0, 1, 0, false));
    }

    @Edge(promise = 35, says = "`inspection`: 0 to 9999")
    static void inspections() {
        due("0", first(best(), 0, 1000, 0), 1000);
        due("9999", first(best(), 9999, 1000, 0), 0);
        refused("-1", RANGE, AttemptEdgesTest::best, x -> first(x, -1, 1000, 0));
        refused("10000", RANGE, AttemptEdgesTest::best, x -> first(x, 10000, 1000, 0));
        refused("the least", RANGE, AttemptEdgesTest::best, x -> first(x, LEAST, 1000, 0));
        refused("the greatest", RANGE, AttemptEdgesTest::best, x -> first(x, MOST, 1000, 0));
    }

    @Edge(promise = 35, says = "a time, 1 to 59999")
    static void timesOfAttempts() {
        due("1", first(best(), 0, 1, 0), 1);
        due("59999", first(best(), 0, 59999, 0), 59999);
        refused("0", RANGE, AttemptEdgesTest::best, x -> first(x, 0, 0, 0));
        refused("60000", RANGE, AttemptEdgesTest::best, x -> first(x, 0, 60000, 0));
        refused("the least", RANGE, AttemptEdgesTest::best, x -> first(x, 0, LEAST, 0));
        refused("the greatest", RANGE, AttemptEdgesTest::best, x -> first(x, 0, MOST, 0));
        refused("0, popped", RANGE, AttemptEdgesTest::best, x -> x.attempt(0, 0, 0, 0, 0, true));
    }

    @Edge(promise = 35, says = "a misaligned angle, 0 to 359, by the least angle to a whole turn")
    static void angles() {
        due("0", first(best(), 0, 1000, 0), 1000);
        due("359", first(best(), 0, 1000, 359), 1200);
        refused("-1", RANGE, AttemptEdgesTest::best, x -> first(x, 0, 1000, -1));
        refused("360", RANGE, AttemptEdgesTest::best, x -> first(x, 0, 1000, 360));
        refused("the least", RANGE, AttemptEdgesTest::best, x -> first(x, 0, 1000, LEAST));
        refused("the greatest", RANGE, AttemptEdgesTest::best, x -> first(x, 0, 1000, MOST));
    }

    @Edge(promise = 35, says = "Throws `IllegalArgumentException` if a number is out of range")
    static void outOfRangeIsNoAttempt() {
        TurnFace x = competing(1, '3', 0, 1000);
        fails("no time", RANGE, () -> x.attempt(0, 0, 0, 0, 0, false));
        due("none told", x.attempts(0, 0), 0);
        due("so the first one is yet to come", x.attempt(0, 0, 0, 999, 0, false), 999);
        due("and more behind it", x.attempt(0, 0, 0, 2000, 0, false), 2000);
    }

    // ---- promise 35: attempt, its result

    @Edge(promise = 35, says = "inspection above 1700 or a pop is no result")
    static void lateOrPopped() {
        due("1700", first(best(), 1700, 1000, 0), 1200);
        due("1701", first(best(), 1701, 1000, 0), 0);
        due("a pop", best().attempt(0, 0, 0, 1000, 0, true), 0);
        due("a pop, late and askew", best().attempt(0, 0, 1600, 1000, 10, true), 0);
    }

    @Edge(promise = 35, says = "above 1500 costs 200")
    static void aLittleLate() {
        due("1500", first(best(), 1500, 1000, 0), 1000);
        due("1501", first(best(), 1501, 1000, 0), 1200);
    }

    @Edge(promise = 35, says = "an angle above 45 is no result, above 0 and up to 45 costs 200")
    static void askew() {
        due("0", first(best(), 0, 1000, 0), 1000);
        due("1", first(best(), 0, 1000, 1), 1200);
        due("45", first(best(), 0, 1000, 45), 1200);
        due("46", first(best(), 0, 1000, 46), 0);
    }

    @Edge(promise = 35, says = "by the least angle to a whole turn")
    static void askewTheOtherWay() {
        due("180", first(best(), 0, 1000, 180), 0);
        due("314", first(best(), 0, 1000, 314), 0);
        due("315", first(best(), 0, 1000, 315), 1200);
        due("359", first(best(), 0, 1000, 359), 1200);
    }

    @Edge(promise = 35, says = "above 1500 costs 200; an angle above 45 is no result, above 0 and up to 45 costs 200")
    static void bothCosts() {
        due("late and askew", first(best(), 1501, 1000, 1), 1400);
        due("the greatest result", first(best(), 1700, 59999, 315), 60399);
        due("late, too far askew", first(best(), 1501, 1000, 46), 0);
        due("too late, askew", first(best(), 1701, 1000, 1), 0);
    }

    // ---- promise 35: attempt, limits

    private static TurnFace limited(char format, int limit) {
        return competing(2, format, limit, 0);
    }

    @Edge(promise = 35, says = "a result that would bring the sum of all, those without a result by their times too, above the limit is none")
    static void upToTheLimit() {
        TurnFace x = limited('3', 3000);
        times(x, 0, 0, 1000, 1000);
        due("the sum is the limit", first(x, 0, 1000, 0), 1000);
        TurnFace y = limited('3', 3000);
        times(y, 0, 0, 1000, 1000);
        due("the sum is one more", first(y, 0, 1001, 0), 0);
        due("the first attempt is the limit", first(limited('3', 3000), 0, 3000, 0), 3000);
        due("the first attempt is one more", first(limited('3', 3000), 0, 3001, 0), 0);
    }

    @Edge(promise = 35, says = "a result that would bring the sum of all, those without a result by their times too, above the limit is none")
    static void costsCountUpToTheLimit() {
        due("up to it by 200", first(limited('b', 1200), 1600, 1000, 0), 1200);
        due("above it by 200", first(limited('b', 1199), 1600, 1000, 0), 0);
        TurnFace x = limited('b', 2400);
        first(x, 0, 1000, 10);
        due("behind one that cost 200", first(x, 0, 1200, 0), 1200);
        TurnFace y = limited('b', 2399);
        first(y, 0, 1000, 10);
        due("behind one that cost 200, one less", first(y, 0, 1200, 0), 0);
    }

    @Edge(promise = 35, says = "those without a result by their times too")
    static void timesWithoutAResult() {
        int[][] told = {{0, 0, 1}, {1701, 0, 0}, {0, 46, 0}, {1600, 10, 1}};
        for (int[] row : told) {
            TurnFace x = limited('3', 2000);
            x.attempt(0, 0, row[0], 1000, row[1], row[2] == 1);
            due("1000 behind " + row[0] + " " + row[1], first(x, 0, 1000, 0), 1000);
            TurnFace y = limited('3', 1999);
            y.attempt(0, 0, row[0], 1000, row[1], row[2] == 1);
            due("1000 behind " + row[0] + " " + row[1] + ", one less", first(y, 0, 1000, 0), 0);
        }
    }

    @Edge(promise = 35, says = "and so are all behind it")
    static void allBehindIt() {
        TurnFace x = limited('5', 3000);
        times(x, 0, 0, 1000);
        due("above", first(x, 0, 2001, 0), 0);
        due("the one behind it", first(x, 0, 1, 0), 0);
        due("the last one", first(x, 0, 1, 0), 0);
        due("they are attempts", x.attempts(0, 0), 4);
        due("the one ahead stays", x.best(0, 0), 1000);
    }

    @Edge(promise = 35, says = "and so are all behind it")
    static void behindOneAboveByItsCosts() {
        TurnFace x = limited('3', 1199);
        due("1000 and 200", first(x, 1600, 1000, 0), 0);
        due("100 behind it", first(x, 0, 100, 0), 0);
        due("1 behind that", first(x, 0, 1, 0), 0);
    }

    @Edge(promise = 35, says = "and so are all behind it")
    static void behindAPopBeyondTheLimit() {
        TurnFace x = limited('5', 1000);
        times(x, 0, 0, -1000);
        due("a pop up to the limit", first(x, 0, 1, 0), 0);
        TurnFace y = limited('5', 1000);
        times(y, 0, 0, -999);
        due("a pop one less", first(y, 0, 1, 0), 1);
        due("nothing left", first(y, 0, 1, 0), 0);
    }

    @Edge(promise = 35, says = "a limit of hundredths for all attempts of one together, 0 for none")
    static void noLimitAndTheLeast() {
        TurnFace x = limited('5', 0);
        for (int i = 0; i < 5; i++) {
            due("no limit, attempt " + i, first(x, 0, 59999, 0), 59999);
        }
        TurnFace y = limited('5', 1);
        due("a limit of 1", first(y, 0, 1, 0), 1);
        due("a limit of 1, behind", first(y, 0, 1, 0), 0);
    }

    @Edge(promise = 35, says = "for all attempts of one together")
    static void ofOneCompetitorInOneRound() {
        TurnFace x = limited('3', 1000);
        x.round('3', 1000, 0);
        times(x, 0, 0, 1001);
        due("of another one", x.attempt(0, 1, 0, 1000, 0, false), 1000);
        due("in another round", x.attempt(1, 0, 0, 1000, 0, false), 1000);
    }

    @Edge(promise = 35, says = "limits are for formats '5', '3' and 'b'")
    static void limitsByFormat() {
        for (char format : "53b".toCharArray()) {
            due("'" + format + "', up to it", first(limited(format, 100), 0, 100, 0), 100);
            due("'" + format + "', above it", first(limited(format, 100), 0, 101, 0), 0);
        }
        due("'m'", limited('m', 1).several(0, 0, 3, 3, 5000), 3);
        TurnFace x = limited('f', 1);
        addFour(x);
        typeAll(x, "ABB-A-");
        due("'f'", x.moves(0, 0, 0), 3);
    }

    private static void addFour(TurnFace x) {
        x.puzzle(4);
        addRing(x, 0, 1, 0, 1, 2);
        addRing(x, 0, 1, 2, 3);
    }

    // ---- promise 35: attempt, cut-offs

    private static void expectCutOff(String name, TurnFace x) {
        fails(name, REFUSED, () -> x.attempt(0, 0, 0, 1, 0, false));
    }

    private static TurnFace told(char format, int cutoff, int... times) {
        TurnFace x = competing(2, format, 0, cutoff);
        times(x, 0, 0, times);
        return x;
    }

    @Edge(promise = 35, says = "whoever has no result below it among the first two attempts in '5', the first one in '3', makes no more")
    static void cutOffOfFive() {
        due("the first below", first(told('5', 1000, 999, 1000), 0, 1, 0), 1);
        due("the second below", first(told('5', 1000, 1000, 999), 0, 1, 0), 1);
        due("none below yet, one to come", first(told('5', 1000, 1000), 0, 1, 0), 1);
        refused("neither below", REFUSED, () -> told('5', 1000, 1000, 1000), x -> first(x, 0, 1, 0));
        refused("neither with a result", REFUSED, () -> told('5', 1000, -1, -1), x -> first(x, 0, 1, 0));
        due("another one makes more", told('5', 1000, 1000, 1000).attempt(0, 1, 0, 1, 0, false), 1);
    }

    @Edge(promise = 35, says = "the first one in '3'")
    static void cutOffOfThree() {
        due("the first below", first(told('3', 1000, 999), 0, 1000, 0), 1000);
        due("only the first one counts", first(told('3', 1000, 999, 1000), 0, 1000, 0), 1000);
        refused("as much", REFUSED, () -> told('3', 1000, 1000), x -> first(x, 0, 1, 0));
        refused("without a result", REFUSED, () -> told('3', 1000, -1), x -> first(x, 0, 1, 0));
        due("none made yet", first(told('3', 1), 0, 1, 0), 1);
    }

    @Edge(promise = 35, says = "has no result below it")
    static void belowWithItsCosts() {
        TurnFace x = competing(1, '3', 0, 1000);
        first(x, 1501, 799, 0);
        due("799 and 200", first(x, 0, 1, 0), 1);
        TurnFace y = competing(1, '3', 0, 1000);
        first(y, 1501, 800, 0);
        expectCutOff("800 and 200", y);
        TurnFace z = competing(1, '3', 500, 1000);
        first(z, 0, 501, 0);
        expectCutOff("none by the limit", z);
    }

    @Edge(promise = 35, says = "and a cut-off, 0 for none")
    static void noCutOffAndTheLeast() {
        due("0 in '5'", first(told('5', 0, 59999, -1), 0, 7, 0), 7);
        due("0 in '3'", first(told('3', 0, -1), 0, 7, 0), 7);
        expectCutOff("1 in '3'", told('3', 1, 1));
        expectCutOff("1 in '5'", told('5', 1, 1, 1));
        due("2 in '3'", first(told('3', 2, 1), 0, 7, 0), 7);
        due("59999 in '3'", first(told('3', 59999, 59998), 0, 7, 0), 7);
        expectCutOff("59999 in '3', as much", told('3', 59999, 59999));
    }

    @Edge(promise = 35, says = "In formats '5' and '3' with a cut-off")
    static void noCutOffInOthers() {
        due("'b'", first(told('b', 1000, 2000, 2000), 0, 7, 0), 7);
        TurnFace x = competing(1, 'f', 0, 1);
        addFour(x);
        typeAll(x, "AA-");
        x.moves(0, 0, 0);
        due("'f'", x.moves(0, 0, 0), 1);
    }

    // ---- promise 35: attempt, what refuses it

    @Edge(promise = 35, says = "Throws `UnsupportedOperationException` if the round is of another format, or closed, or the competitor makes no more")
    static void attemptOfAnotherFormat() {
        refused("'f'", REFUSED, () -> competing(1, 'f', 0, 0), x -> first(x, 0, 1, 0));
        refused("'m'", REFUSED, () -> competing(1, 'm', 0, 0), x -> first(x, 0, 1, 0));
    }

    private static TurnFace closed(char format) {
        TurnFace x = competing(2, format, 0, 0);
        addFour(x);
        x.close(0, 3);
        return x;
    }

    private static TurnFace undone(char format) {
        TurnFace x = closed(format);
        x.undo(0);
        return x;
    }

    @Edge(promise = 35, says = "or closed")
    static void attemptOfAClosedRound() {
        refused("closed", REFUSED, () -> closed('5'), x -> first(x, 0, 1, 0));
        refused("undone", REFUSED, () -> undone('5'), x -> first(x, 0, 1, 0));
    }

    @Edge(promise = 35, says = "or the competitor makes no more")
    static void lastAttempts() {
        due("the fifth of '5'", first(told('5', 0, 9, 9, 9, 9), 0, 8, 0), 8);
        refused("the sixth of '5'", REFUSED, () -> told('5', 0, 9, 9, 9, 9, 9), x -> first(x, 0, 8, 0));
        due("the third of '3'", first(told('3', 0, 9, 9), 0, 8, 0), 8);
        refused("the fourth of '3'", REFUSED, () -> told('3', 0, 9, 9, 9), x -> first(x, 0, 8, 0));
        due("the third of 'b'", first(told('b', 0, 9, 9), 0, 8, 0), 8);
        refused("the fourth of 'b'", REFUSED, () -> told('b', 0, 9, 9, 9), x -> first(x, 0, 8, 0));
        refused("the fourth, none with a result", REFUSED, () -> told('b', 0, -9, -9, -9), x -> first(x, 0, 8, 0));
    }

    @Edge(promise = 35, says = "If several exceptions apply, the one that is documented first is thrown.")
    static void whichOfThree() {
        refused("no round, out of range", INDEX, AttemptEdgesTest::best, x -> x.attempt(1, 0, -1, 0, -1, false));
        refused("no competitor, out of range", INDEX, AttemptEdgesTest::best, x -> x.attempt(0, 1, 0, 0, 0, false));
        refused("no competitor, closed", INDEX, () -> closed('5'), x -> x.attempt(0, 2, 0, 1, 0, false));
        refused("no competitor, another format", INDEX, () -> competing(1, 'm', 0, 0), x -> x.attempt(0, 1, 0, 1, 0, false));
        refused("another format, out of range", REFUSED, () -> competing(1, 'm', 0, 0), x -> first(x, 0, 0, 0));
        refused("closed, out of range", REFUSED, () -> closed('5'), x -> first(x, -1, 1, 0));
        refused("no more, out of range", REFUSED, () -> told('3', 0, 9, 9, 9), x -> first(x, 0, 1, 360));
        refused("cut off, out of range", REFUSED, () -> told('3', 5, 9), x -> first(x, 0, 60000, 0));
    }

    // ---- promise 36: moves

    private static TurnFace fewest(String signs) {
        TurnFace x = competing(1, 'f', 0, 0);
        addFour(x);
        typeAll(x, signs);
        return x;
    }

    @Edge(promise = 36, says = "Throws `IndexOutOfBoundsException` if there is no such round, competitor or puzzle")
    static void noneSuchOfThree() {
        refused("round 1 of one", INDEX, () -> fewest("A"), x -> x.moves(1, 0, 0));
        refused("round -1", INDEX, () -> fewest("A"), x -> x.moves(-1, 0, 0));
        refused("competitor 1 of one", INDEX, () -> fewest("A"), x -> x.moves(0, 1, 0));
        refused("competitor -1", INDEX, () -> fewest("A"), x -> x.moves(0, -1, 0));
        refused("puzzle 1 of one", INDEX, () -> fewest("A"), x -> x.moves(0, 0, 1));
        refused("puzzle -1", INDEX, () -> fewest("A"), x -> x.moves(0, 0, -1));
    }

    @Edge(promise = 36, says = "its result is its turns in count 't', if these are not 0")
    static void movesOfNoTurns() {
        due("no signs", fewest("").moves(0, 0, 0), 0);
        due("empty words", fewest("<>[|]").moves(0, 0, 0), 0);
        due("one turn of one ring", fewest("AA-").moves(0, 0, 0), 1);
        due("as many as there can be", fewest("<<<AB>5>4>3").moves(0, 0, 0), 120);
        due("in count 't'", fewest("A9").moves(0, 0, 0), 1);
    }

    @Edge(promise = 36, says = "it can be done on the puzzle")
    static void movesThatCannotBeDone() {
        due("B of two", fewest("B2").moves(0, 0, 0), 1);
        due("C of two", fewest("C2").moves(0, 0, 0), 0);
        due("C of two, undone by itself", fewest("CC-").moves(0, 0, 0), 0);
        due("C of two, ahead", fewest("CC-A3").moves(0, 0, 0), 0);
    }

    @Edge(promise = 36, says = "it can be done on the puzzle")
    static void movesOfNoWord() {
        due("not shut", fewest("<A3").moves(0, 0, 0), 0);
        due("120 turns", fewest("<<A5>4>6").moves(0, 0, 0), 1);
        due("123 turns", fewest("<<A5>4>6A3").moves(0, 0, 0), 0);
        TurnFace x = fewest("<A3");
        x.moves(0, 0, 0);
        due("an attempt though", x.attempts(0, 0), 1);
    }

    @Edge(promise = 36, says = "solves its state as it is")
    static void movesThatSolve() {
        due("scrambled by them", fewest("A").moves(0, 0, 0), 0);
        due("not scrambled", fewest("A3").moves(0, 0, 0), 1);
        TurnFace x = fewest("A-");
        x.turn(0, 'A', 1);
        due("back", x.moves(0, 0, 0), 1);
        x.turn(0, 'B', 1);
        due("back no more", x.moves(0, 0, 0), 0);
        typeAll(x, "B");
        x.colour(0, 1, 0);
        x.colour(0, 2, 0);
        due("by colours", x.moves(0, 0, 0), 1);
    }

    @Edge(promise = 36, says = "solves its state as it is")
    static void movesFromOutside() {
        TurnFace x = competing(1, 'f', 0, 0);
        x.puzzle(3);
        addRing(x, 0, 1, 0, 1, 2);
        x.swap(0, 0, 1);
        x.colour(0, 2, 1);
        typeAll(x, "A");
        due("a state that no turns make", x.moves(0, 0, 0), 0);
        typeAll(x, "A-");
        due("the same, back", x.moves(0, 0, 0), 1);
    }

    @Edge(promise = 36, says = "the state stays")
    static void stateStays() {
        TurnFace x = fewest("A-");
        x.turn(0, 'A', 1);
        x.moves(0, 0, 0);
        due("solved by them", pieces(x, 0, 4), "2013");
        typeAll(x, "B");
        x.moves(0, 0, 0);
        due("not solved by them", pieces(x, 0, 4), "2013");
    }

    @Edge(promise = 36, says = "What is typed stays, but for where it is told.")
    static void signsStayWhenTold() {
        TurnFace x = fewest("A3");
        due("once", x.moves(0, 0, 0), 1);
        due("again", x.moves(0, 0, 0), 1);
        due("the signs", x.wipe(), 2);
    }

    @Edge(promise = 36, says = "Throws `UnsupportedOperationException` if the round is of another format, or closed, or the competitor makes no more")
    static void movesOfAnotherFormat() {
        for (char format : "53bm".toCharArray()) {
            Maker other = () -> {
                TurnFace x = competing(1, format, 0, 0);
                addFour(x);
                return x;
            };
            refused("'" + format + "'", REFUSED, other, x -> x.moves(0, 0, 0));
        }
        refused("closed", REFUSED, () -> closed('f'), x -> x.moves(0, 0, 0));
        refused("undone", REFUSED, () -> undone('f'), x -> x.moves(0, 0, 0));
    }

    private static TurnFace movedThrice() {
        TurnFace x = fewest("A3");
        for (int i = 0; i < 3; i++) {
            due("attempt " + i, x.moves(0, 0, 0), 1);
        }
        return x;
    }

    @Edge(promise = 36, says = "or the competitor makes no more")
    static void fourthMoves() {
        refused("the fourth", REFUSED, AttemptEdgesTest::movedThrice, x -> x.moves(0, 0, 0));
    }

    @Edge(promise = 36, says = "If several exceptions apply, the one that is documented first is thrown.")
    static void movesOfTwo() {
        refused("no puzzle, another format", INDEX, AttemptEdgesTest::best, x -> x.moves(0, 0, 0));
        refused("no puzzle, closed", INDEX, () -> closed('f'), x -> x.moves(0, 0, 1));
        refused("no puzzle, no more", INDEX, AttemptEdgesTest::movedThrice, x -> x.moves(0, 0, 1));
        refused("no competitor, closed", INDEX, () -> closed('f'), x -> x.moves(0, 2, 0));
        refused("no round, no puzzle", INDEX, () -> closed('f'), x -> x.moves(1, 0, 1));
    }

    // ---- promise 37: several

    private static TurnFace blind() {
        return competing(1, 'm', 0, 0);
    }

    @Edge(promise = 37, says = "Throws `IndexOutOfBoundsException` if there is no such round or competitor")
    static void severalOfNoneSuch() {
        refused("round 1 of one", INDEX, AttemptEdgesTest::blind, x -> x.several(1, 0, 2, 2, 1));
        refused("round -1", INDEX, AttemptEdgesTest::blind, x -> x.several(-1, 0, 2, 2, 1));
        refused("competitor 1 of one", INDEX, AttemptEdgesTest::blind, x -> x.several(0, 1, 2, 2, 1));
        refused("competitor -1", INDEX, AttemptEdgesTest::blind, x -> x.several(0, -1, 2, 2, 1));
    }

    @Edge(promise = 37, says = "`tried`: 2 to 60")
    static void fewestAndMostTried() {
        due("2", blind().several(0, 0, 2, 2, 1), 2);
        due("60", blind().several(0, 0, 60, 60, 1), 60);
        refused("1", RANGE, AttemptEdgesTest::blind, x -> x.several(0, 0, 1, 1, 1));
        refused("61", RANGE, AttemptEdgesTest::blind, x -> x.several(0, 0, 61, 61, 1));
        refused("61, fewer solved", RANGE, AttemptEdgesTest::blind, x -> x.several(0, 0, 61, 60, 1));
        refused("the greatest", RANGE, AttemptEdgesTest::blind, x -> x.several(0, 0, MOST, 2, 1));
        refused("the least", RANGE, AttemptEdgesTest::blind, x -> x.several(0, 0, LEAST, 0, 1));
    }

    @Edge(promise = 37, says = "`solved`: 0 to as many")
    static void fewestAndMostSolved() {
        due("0", blind().several(0, 0, 2, 0, 1), -1);
        due("all", blind().several(0, 0, 59, 59, 1), 59);
        refused("-1", RANGE, AttemptEdgesTest::blind, x -> x.several(0, 0, 2, -1, 1));
        refused("one more than tried", RANGE, AttemptEdgesTest::blind, x -> x.several(0, 0, 2, 3, 1));
        refused("one more than sixty", RANGE, AttemptEdgesTest::blind, x -> x.several(0, 0, 60, 61, 1));
        refused("the greatest", RANGE, AttemptEdgesTest::blind, x -> x.several(0, 0, 2, MOST, 1));
        refused("the least", RANGE, AttemptEdgesTest::blind, x -> x.several(0, 0, 2, LEAST, 1));
    }

    @Edge(promise = 37, says = "`time`: 1 to 359999")
    static void leastAndGreatestTime() {
        due("1", blind().several(0, 0, 3, 3, 1), 3);
        due("359999", blind().several(0, 0, 3, 3, 359999), 3);
        refused("0", RANGE, AttemptEdgesTest::blind, x -> x.several(0, 0, 3, 3, 0));
        refused("360000", RANGE, AttemptEdgesTest::blind, x -> x.several(0, 0, 3, 3, 360000));
        refused("the greatest", RANGE, AttemptEdgesTest::blind, x -> x.several(0, 0, 3, 3, MOST));
        refused("the least", RANGE, AttemptEdgesTest::blind, x -> x.several(0, 0, 3, 3, LEAST));
    }

    @Edge(promise = 37, says = "Throws `IllegalArgumentException` if a number is out of range")
    static void outOfRangeIsNoneOfSeveral() {
        TurnFace x = blind();
        fails("no time", RANGE, () -> x.several(0, 0, 2, 2, 0));
        due("none told", x.attempts(0, 0), 0);
        due("so it is yet to come", x.several(0, 0, 2, 2, 1), 2);
    }

    @Edge(promise = 37, says = "its points are solved ones less the others; none if below 0, or below 1 with two tried")
    static void points() {
        int[][] told = {{2, 2, 2}, {2, 1, -1}, {2, 0, -1}, {3, 3, 3}, {3, 2, 1}, {3, 1, -1}, {4, 2, 0}, {4, 1, -1}, {60, 30, 0}, {60, 29, -1}, {60, 31, 2}};
        for (int[] row : told) {
            due(row[1] + " of " + row[0], blind().several(0, 0, row[0], row[1], 100), row[2]);
        }
    }

    @Edge(promise = 37, says = "Throws `UnsupportedOperationException` if the round is of another format, or closed, or the competitor makes no more")
    static void severalOfAnotherFormat() {
        for (char format : "53bf".toCharArray()) {
            refused("'" + format + "'", REFUSED, () -> competing(1, format, 0, 0), x -> x.several(0, 0, 2, 2, 1));
        }
        refused("closed", REFUSED, () -> closed('m'), x -> x.several(0, 0, 2, 2, 1));
        refused("undone", REFUSED, () -> undone('m'), x -> x.several(0, 0, 2, 2, 1));
    }

    private static TurnFace blindOnce(int tried, int solved) {
        TurnFace x = blind();
        x.several(0, 0, tried, solved, 9);
        return x;
    }

    @Edge(promise = 37, says = "'m' several without sight, best of one")
    static void secondOfSeveral() {
        refused("behind points", REFUSED, () -> blindOnce(2, 2), x -> x.several(0, 0, 2, 2, 1));
        refused("behind none", REFUSED, () -> blindOnce(2, 0), x -> x.several(0, 0, 2, 2, 1));
    }

    @Edge(promise = 37, says = "If several exceptions apply, the one that is documented first is thrown.")
    static void severalOfTwo() {
        refused("no round, out of range", INDEX, AttemptEdgesTest::blind, x -> x.several(1, 0, 1, 1, 1));
        refused("no competitor, closed", INDEX, () -> closed('m'), x -> x.several(0, 2, 2, 2, 1));
        refused("another format, out of range", REFUSED, AttemptEdgesTest::best, x -> x.several(0, 0, 1, 1, 1));
        refused("closed, out of range", REFUSED, () -> closed('m'), x -> x.several(0, 0, 2, 3, 1));
        refused("no more, out of range", REFUSED, () -> blindOnce(2, 2), x -> x.several(0, 0, 2, 2, 0));
    }

    // ---- promise 38: attempts

    @Edge(promise = 38, says = "Throws `IndexOutOfBoundsException` if there is no such round or competitor")
    static void attemptsOfNoneSuch() {
        refused("round 1 of one", INDEX, AttemptEdgesTest::best, x -> x.attempts(1, 0));
        refused("round -1", INDEX, AttemptEdgesTest::best, x -> x.attempts(-1, 0));
        refused("competitor 1 of one", INDEX, AttemptEdgesTest::best, x -> x.attempts(0, 1));
        refused("competitor -1", INDEX, AttemptEdgesTest::best, x -> x.attempts(0, -1));
        refused("the greatest", INDEX, AttemptEdgesTest::best, x -> x.attempts(MOST, MOST));
        refused("the least", INDEX, AttemptEdgesTest::best, x -> x.attempts(LEAST, LEAST));
    }

    @Edge(promise = 38, says = "Returns how many.")
    static void noneToFive() {
        TurnFace x = told('5', 0);
        for (int i = 0; i <= 5; i++) {
            due(i + " told", x.attempts(0, 0), i);
            if (i < 5) {
                times(x, 0, 0, i % 2 == 0 ? 10 : -10);
            }
        }
        due("of another one", x.attempts(0, 1), 0);
        due("one of several", blindOnce(2, 0).attempts(0, 0), 1);
    }
}
