/** Promises 39 to 45, results, ranks and records: each boundary that a sentence names, by itself. */
public final class ResultEdgesTest extends Lab {
    public static void main(String[] args) throws IllegalAccessException {
        runEdges(ResultEdgesTest.class);
    }

    private static TurnFace one(char format, int... times) {
        TurnFace x = competing(1, format, 0, 0);
        times(x, 0, 0, times);
        return x;
    }

    /** One attempt for each competitor. */
    private static TurnFace once(char format, int... times) {
        TurnFace x = competing(times.length, format, 0, 0);
        firstTimes(x, 0, times);
        return x;
    }

    private static void needsRoundAndCompetitor(Ask noRound, Ask belowRounds, Ask noCompetitor, Ask belowCompetitors) {
        refused("round 1 of one", INDEX, () -> one('5', 9), noRound);
        refused("round -1", INDEX, () -> one('5', 9), belowRounds);
        refused("competitor 1 of one", INDEX, () -> one('5', 9), noCompetitor);
        refused("competitor -1", INDEX, () -> one('5', 9), belowCompetitors);
    }

    // ---- promise 39: best

    @Edge(promise = 39, says = "Throws `IndexOutOfBoundsException` if there is no such round or competitor")
    static void bestOfNoneSuch() {
        needsRoundAndCompetitor(x -> x.best(1, 0), x -> x.best(-1, 0), x -> x.best(0, 1), x -> x.best(0, -1));
    }

    @Edge(promise = 39, says = "Throws `NoSuchElementException` if there is none")
    static void noBestOne() {
        refused("no attempt", MISSING, () -> one('b'), x -> x.best(0, 0));
        refused("none with a result", MISSING, () -> one('b', -9, -9, -9), x -> x.best(0, 0));
        due("the last one with a result", one('b', -9, -9, 9).best(0, 0), 9);
        due("the first one with a result", one('b', 9, -9, -9).best(0, 0), 9);
        due("the least one", one('5', 1).best(0, 0), 1);
    }

    @Edge(promise = 39, says = "Returns the best result of a competitor; in 'm' the points.")
    static void lowestOfAll() {
        due("the first", one('5', 8, 9, 9, 9, 9).best(0, 0), 8);
        due("the last", one('5', 9, 9, 9, 9, 8).best(0, 0), 8);
        due("between", one('3', 9, 8, 9).best(0, 0), 8);
    }

    @Edge(promise = 39, says = "none if below 0, or below 1 with two tried")
    static void noPointsAndNone() {
        TurnFace x = competing(3, 'm', 0, 0);
        x.several(0, 0, 4, 2, 1);
        x.several(0, 1, 2, 1, 1);
        x.several(0, 2, 3, 1, 1);
        due("0 points", x.best(0, 0), 0);
        fails("0 of two tried", MISSING, () -> x.best(0, 1));
        fails("below 0", MISSING, () -> x.best(0, 2));
    }

    @Edge(promise = 39, says = "'f' fewest moves, best of three")
    static void fewestOfThree() {
        TurnFace x = four();
        x.competitor(0);
        x.round('f', 0, 0);
        typeAll(x, "ABB-A-");
        x.moves(0, 0, 0);
        typeAll(x, "A");
        x.moves(0, 0, 0);
        due("3 and none", x.best(0, 0), 3);
        typeAll(x, "A3");
        x.moves(0, 0, 0);
        due("3, none and 1", x.best(0, 0), 1);
    }

    // ---- promise 40: average

    @Edge(promise = 40, says = "Throws `IndexOutOfBoundsException` if there is no such round or competitor")
    static void averageOfNoneSuch() {
        needsRoundAndCompetitor(x -> x.average(1, 0), x -> x.average(-1, 0), x -> x.average(0, 1), x -> x.average(0, -1));
    }

    @Edge(promise = 40, says = "Throws `UnsupportedOperationException` if the round is not '5' or '3'")
    static void averageOfAnotherFormat() {
        refused("'b'", REFUSED, () -> one('b', 9, 9, 9), x -> x.average(0, 0));
        refused("'f'", REFUSED, () -> competing(1, 'f', 0, 0), x -> x.average(0, 0));
        refused("'m'", REFUSED, () -> competing(1, 'm', 0, 0), x -> x.average(0, 0));
        due("'3'", one('3', 9, 9, 9).average(0, 0), 9);
        due("'5'", one('5', 9, 9, 9, 9, 9).average(0, 0), 9);
    }

    @Edge(promise = 40, says = "Throws `NoSuchElementException` if there is none, or not all attempts were made")
    static void notAllAttempts() {
        refused("none of '5'", MISSING, () -> one('5'), x -> x.average(0, 0));
        refused("four of '5'", MISSING, () -> one('5', 9, 9, 9, 9), x -> x.average(0, 0));
        refused("two of '3'", MISSING, () -> one('3', 9, 9), x -> x.average(0, 0));
        TurnFace x = competing(1, '5', 0, 5);
        times(x, 0, 0, 9, 9);
        fails("cut off", MISSING, () -> x.average(0, 0));
    }

    @Edge(promise = 40, says = "An average of five leaves out the best and the worst one")
    static void bestAndWorstWhereverTheyAre() {
        due("first and last", one('5', 100, 200, 300, 400, 9000).average(0, 0), 300);
        due("last and first", one('5', 9000, 200, 300, 400, 100).average(0, 0), 300);
        due("between", one('5', 200, 9000, 300, 100, 400).average(0, 0), 300);
        due("all alike", one('5', 7, 7, 7, 7, 7).average(0, 0), 7);
        due("two best ones alike", one('5', 100, 100, 200, 300, 300).average(0, 0), 200);
        due("the least", one('5', 1, 1, 1, 1, 1).average(0, 0), 1);
    }

    @Edge(promise = 40, says = "the sum of three by 3, rounded to the nearest whole number, half up")
    static void roundedUpAndDown() {
        int[] averages = {1000, 1000, 1001, 1001};
        for (int more = 0; more <= 3; more++) {
            due("five, " + more + " more", one('5', 1, 1000, 1000, 1000 + more, 9000).average(0, 0), averages[more]);
            due("three, " + more + " more", one('3', 1000, 1000, 1000 + more).average(0, 0), averages[more]);
        }
    }

    @Edge(promise = 40, says = "the sum of three by 3")
    static void greatestAverage() {
        TurnFace x = competing(1, '5', 0, 0);
        for (int i = 0; i < 5; i++) {
            x.attempt(0, 0, 1700, 59999, 45, false);
        }
        due("60399", x.average(0, 0), 60399);
    }

    @Edge(promise = 40, says = "without a result counts as the worst; with two such there is none")
    static void noneOneOrTwoWithout() {
        due("none", one('5', 100, 200, 300, 400, 500).average(0, 0), 300);
        due("one, the last", one('5', 100, 200, 300, 400, -1).average(0, 0), 300);
        due("one, the first", one('5', -1, 200, 300, 400, 500).average(0, 0), 400);
        due("one, a sum of 901", one('5', 100, 200, 300, 401, -1).average(0, 0), 300);
        due("one, a sum of 902", one('5', 100, 200, 300, 402, -1).average(0, 0), 301);
        refused("two", MISSING, () -> one('5', 100, -1, 200, 300, -1), x -> x.average(0, 0));
        refused("all", MISSING, () -> one('5', -1, -1, -1, -1, -1), x -> x.average(0, 0));
    }

    @Edge(promise = 40, says = "A mean of three is likewise the sum by 3; with one such there is none.")
    static void noneOrOneOfThreeWithout() {
        due("none", one('3', 100, 200, 300).average(0, 0), 200);
        refused("the first", MISSING, () -> one('3', -1, 200, 300), x -> x.average(0, 0));
        refused("the last", MISSING, () -> one('3', 100, 200, -1), x -> x.average(0, 0));
    }

    @Edge(promise = 40, says = "If several exceptions apply, the one that is documented first is thrown.")
    static void averageOfTwo() {
        refused("another format, no attempt", REFUSED, () -> one('b'), x -> x.average(0, 0));
        refused("another format, no result", REFUSED, () -> one('b', -1, -1, -1), x -> x.average(0, 0));
    }

    // ---- promise 41: rank

    @Edge(promise = 41, says = "Throws `IndexOutOfBoundsException` if there is no such round or competitor")
    static void rankOfNoneSuch() {
        needsRoundAndCompetitor(x -> x.rank(1, 0), x -> x.rank(-1, 0), x -> x.rank(0, 1), x -> x.rank(0, -1));
    }

    @Edge(promise = 41, says = "Throws `NoSuchElementException` if there is no attempt")
    static void rankWithoutAttempt() {
        refused("no attempt", MISSING, () -> one('b'), x -> x.rank(0, 0));
        due("no result", one('b', -9).rank(0, 0), 1);
        TurnFace x = competing(2, 'b', 0, 0);
        times(x, 0, 1, -9);
        fails("no attempt, another one has", MISSING, () -> x.rank(0, 0));
        due("the other one", x.rank(0, 1), 1);
    }

    private static void expectRanks(String name, TurnFace x, int... ranks) {
        for (int i = 0; i < ranks.length; i++) {
            due(name + ", competitor " + i, x.rank(0, i), ranks[i]);
        }
    }

    @Edge(promise = 41, says = "those alike share a rank")
    static void alike() {
        expectRanks("none alike", once('b', 30, 10, 20), 3, 1, 2);
        expectRanks("two at the top", once('b', 10, 20, 10), 1, 3, 1);
        expectRanks("two at the end", once('b', 20, 10, 20), 2, 1, 2);
        expectRanks("all twelve", once('b', 5, 5, 5, 5, 5, 5, 5, 5, 5, 5, 5, 5), 1, 1, 1, 1, 1, 1, 1, 1, 1, 1, 1, 1);
        expectRanks("twelve", once('b', 12, 11, 10, 9, 8, 7, 6, 5, 4, 3, 2, 1), 12, 11, 10, 9, 8, 7, 6, 5, 4, 3, 2, 1);
    }

    @Edge(promise = 41, says = "Ranks go by the average or mean in '5' and '3', then by the best result")
    static void averageThenBest() {
        TurnFace x = competing(4, '5', 0, 0);
        times(x, 0, 0, 100, 200, 200, 200, 300);
        times(x, 0, 1, 101, 200, 200, 200, 300);
        times(x, 0, 2, 50, 200, 200, 202, 300);
        times(x, 0, 3, 100, 200, 200, 200, 999);
        expectRanks("five", x, 1, 3, 4, 1);
        TurnFace y = competing(3, '3', 0, 0);
        times(y, 0, 0, 100, 200, 300);
        times(y, 0, 1, 99, 201, 300);
        times(y, 0, 2, 1, 302, 300);
        expectRanks("three", y, 2, 1, 3);
    }

    @Edge(promise = 41, says = "those without an average behind all with one, and without any result behind all")
    static void withoutAnAverage() {
        TurnFace x = competing(6, '5', 0, 0);
        times(x, 0, 0, 9000, 9000, 9000, 9000, 9000);
        times(x, 0, 1, 1, -1, -1, 1, 1);
        times(x, 0, 2, 1, 1, 1, 1);
        times(x, 0, 3, 2);
        times(x, 0, 4, -1, -1, -1, -1, -1);
        times(x, 0, 5, -5);
        expectRanks("five", x, 1, 2, 2, 4, 5, 5);
    }

    @Edge(promise = 41, says = "in 'b' and 'f' by the best one")
    static void byTheBestOne() {
        TurnFace x = competing(3, 'b', 0, 0);
        times(x, 0, 0, 10, 99, 99);
        times(x, 0, 1, 10);
        times(x, 0, 2, 11, 11, 11);
        expectRanks("'b'", x, 1, 1, 3);
        TurnFace y = four();
        y.competitor(0);
        y.competitor(0);
        y.competitor(0);
        y.round('f', 0, 0);
        String[] words = {"ABB-A-", "A3", "A"};
        for (int i = 0; i < 3; i++) {
            typeAll(y, words[i]);
            y.moves(0, i, 0);
        }
        expectRanks("'f'", y, 2, 1, 3);
    }

    private static TurnFace several(int[]... told) {
        TurnFace x = competing(told.length, 'm', 0, 0);
        for (int i = 0; i < told.length; i++) {
            x.several(0, i, told[i][0], told[i][1], told[i][2]);
        }
        return x;
    }

    @Edge(promise = 41, says = "in 'm' by points, more first, then by time, then by fewer unsolved ones")
    static void pointsTimeUnsolved() {
        expectRanks("points", several(new int[] {4, 3, 1}, new int[] {3, 3, 9}), 2, 1);
        expectRanks("time", several(new int[] {3, 3, 9}, new int[] {5, 4, 8}), 2, 1);
        expectRanks("unsolved", several(new int[] {5, 4, 9}, new int[] {3, 3, 9}), 2, 1);
        expectRanks("all alike", several(new int[] {5, 4, 9}, new int[] {5, 4, 9}), 1, 1);
        expectRanks("0 points and none", several(new int[] {2, 1, 1}, new int[] {4, 2, 9}), 2, 1);
        expectRanks("0 points, by time", several(new int[] {4, 2, 9}, new int[] {4, 2, 8}), 2, 1);
        expectRanks("0 points, by unsolved", several(new int[] {6, 3, 9}, new int[] {4, 2, 9}), 2, 1);
        expectRanks("none, alike", several(new int[] {2, 1, 9}, new int[] {9, 0, 8}), 1, 1);
    }

    // ---- promise 42: advances

    @Edge(promise = 42, says = "Throws `IndexOutOfBoundsException` if there is no such round or competitor")
    static void advancesOfNoneSuch() {
        needsRoundAndCompetitor(x -> x.advances(1, 0, 1), x -> x.advances(-1, 0, 1), x -> x.advances(0, 1, 1), x -> x.advances(0, -1, 1));
    }

    @Edge(promise = 42, says = "`many`: how many, 0 to 12")
    static void fewestAndMostTold() {
        TurnFace x = once('b', 1, 2, 3, 4);
        due("0", x.advances(0, 0, 0), false);
        due("1", x.advances(0, 0, 1), true);
        due("12", x.advances(0, 0, 12), true);
    }

    @Edge(promise = 42, says = "Throws `IllegalArgumentException` if a number is out of range")
    static void toldOutOfRange() {
        refused("-1", RANGE, () -> once('b', 1, 2), x -> x.advances(0, 0, -1));
        refused("13", RANGE, () -> once('b', 1, 2), x -> x.advances(0, 0, 13));
        refused("the least", RANGE, () -> once('b', 1, 2), x -> x.advances(0, 0, LEAST));
        refused("the greatest", RANGE, () -> once('b', 1, 2), x -> x.advances(0, 0, MOST));
    }

    @Edge(promise = 42, says = "So many advance as are told")
    static void soMany() {
        TurnFace x = once('b', 8, 7, 6, 5, 4, 3, 2, 1);
        expectAdvancing("0", x, 0, "nnnnnnnn");
        expectAdvancing("1", x, 1, "nnnnnnny");
        expectAdvancing("2", x, 2, "nnnnnnyy");
        expectAdvancing("5", x, 5, "nnnyyyyy");
    }

    @Edge(promise = 42, says = "but three quarters of those who have an attempt, cut, at most")
    static void threeQuarters() {
        int[] most = {0, 0, 1, 2, 3, 3, 4, 5, 6, 6, 7, 8, 9};
        for (int started = 0; started <= 12; started++) {
            TurnFace x = competing(12, 'b', 0, 0);
            for (int i = 0; i < started; i++) {
                times(x, 0, i, 10 + i);
            }
            expectAdvancing(started + " with an attempt", x, 12, "yyyyyyyyy".substring(0, most[started]) + "nnnnnnnnnnnn".substring(most[started]));
        }
    }

    @Edge(promise = 42, says = "with a result or not")
    static void withOrWithoutAResult() {
        expectAdvancing("one of four with a result", once('b', 5, -1, -1, -1), 1, "ynnn");
        TurnFace x = once('b', 5, 6, 7, -1);
        x.competitor(0);
        expectAdvancing("three of four with a result", x, 3, "yyynn");
        TurnFace y = once('b', 5, -1, 6, 7, 8, 9, 10, 11);
        times(y, 0, 3, -7);
        expectAdvancing("six of eight", y, 6, "ynyyyyyn");
        expectAdvancing("one of two, neither with a result", once('b', -1, -1), 1, "nn");
        TurnFace z = competing(5, 'b', 0, 0);
        times(z, 0, 0, 5);
        times(z, 0, 1, 6);
        times(z, 0, 2, -1);
        times(z, 0, 3, 4);
        expectAdvancing("those without an attempt do not", z, 4, "yynyn");
    }

    @Edge(promise = 42, says = "with a result or not")
    static void oneWithoutAResultAmongThem() {
        TurnFace x = several(new int[] {2, 2, 1}, new int[] {2, 0, 1}, new int[] {2, 2, 2}, new int[] {2, 2, 3});
        expectAdvancing("the fourth has none", x, 3, "ynyy");
        TurnFace y = competing(8, 'b', 0, 0);
        firstTimes(y, 0, 1, 2, 3, 4, -5, -5);
        expectAdvancing("four of six, line ahead of both", y, 4, "yyyynnnn");
        TurnFace z = competing(9, 'b', 0, 0);
        firstTimes(z, 0, -5, -5, 1, 2, 3, 4);
        expectAdvancing("two alike behind three quarters", z, 5, "nnyyyynnn");
        TurnFace w = competing(4, '5', 0, 0);
        times(w, 0, 0, 10);
        times(w, 0, 1, -10);
        times(w, 0, 2, 11);
        expectAdvancing("by best ones alone", w, 2, "ynyn");
    }

    @Edge(promise = 42, says = "those alike at the line of those who advance do all, if these are no more than three quarters then, and otherwise none of them")
    static void alikeAtTheLine() {
        TurnFace x = once('b', 1, 2, 2, 2, 2, 2, 3, 3);
        expectAdvancing("the line ahead of them", x, 1, "ynnnnnnn");
        expectAdvancing("the line behind the first", x, 2, "yyyyyynn");
        expectAdvancing("the line ahead of the last", x, 5, "yyyyyynn");
        expectAdvancing("the line behind the last", x, 6, "yyyyyynn");
        TurnFace y = once('b', 1, 2, 2, 2, 2, 2, 2, 3);
        expectAdvancing("one too many", y, 2, "ynnnnnnn");
        expectAdvancing("one too many, told more", y, 12, "ynnnnnnn");
        expectAdvancing("all alike", once('b', 1, 1, 1, 1), 12, "nnnn");
    }

    @Edge(promise = 42, says = "those alike at the line of those who advance do all")
    static void alikeOfSeveral() {
        TurnFace x = several(new int[] {2, 2, 1}, new int[] {2, 1, 1}, new int[] {3, 1, 2}, new int[] {9, 0, 3});
        expectAdvancing("three without a result at the line", x, 3, "ynnn");
        TurnFace y = several(new int[] {2, 2, 1}, new int[] {2, 2, 1}, new int[] {4, 3, 1}, new int[] {2, 2, 2});
        expectAdvancing("two of as many points and unsolved ones", y, 1, "yynn");
        expectAdvancing("and one of more unsolved ones", y, 3, "yyyn");
    }

    @Edge(promise = 42, says = "if these are no more than three quarters then")
    static void noRoundAdvancesAllOfAFew() {
        expectAdvancing("one", once('b', 5), 12, "n");
        expectAdvancing("two", once('b', 5, 6), 12, "yn");
        expectAdvancing("two alike", once('b', 5, 5), 1, "nn");
        expectAdvancing("three, two alike ahead", once('b', 5, 5, 6), 1, "yyn");
        expectAdvancing("three, two alike behind", once('b', 5, 6, 6), 2, "ynn");
    }

    @Edge(promise = 42, says = "If several exceptions apply, the one that is documented first is thrown.")
    static void advancesOfTwo() {
        refused("no round, 13", INDEX, () -> once('b', 1, 2), x -> x.advances(1, 0, 13));
        refused("no competitor, -1", INDEX, () -> once('b', 1, 2), x -> x.advances(0, 2, -1));
    }

    // ---- promise 43: close

    private static TurnFace rounds(int many) {
        TurnFace x = competing(2, '5', 0, 0);
        for (int i = 1; i < many; i++) {
            x.round('5', 0, 0);
        }
        return x;
    }

    @Edge(promise = 43, says = "Throws `IndexOutOfBoundsException` if there is no such round")
    static void closeWithoutRound() {
        refused("none", INDEX, TurnFace::new, x -> x.close(0, 0));
        refused("1 of one", INDEX, () -> rounds(1), x -> x.close(1, 0));
        refused("-1", INDEX, () -> rounds(1), x -> x.close(-1, 0));
    }

    @Edge(promise = 43, says = "on a day, 0 to 999")
    static void firstAndLastDay() {
        due("0", rounds(1).close(0, 0), 0);
        due("999", rounds(1).close(0, 999), 0);
        refused("-1", RANGE, () -> rounds(1), x -> x.close(0, -1));
        refused("1000", RANGE, () -> rounds(1), x -> x.close(0, 1000));
        refused("the least", RANGE, () -> rounds(1), x -> x.close(0, LEAST));
        refused("the greatest", RANGE, () -> rounds(1), x -> x.close(0, MOST));
    }

    private static TurnFace closedOn(int day) {
        TurnFace x = rounds(2);
        x.close(0, day);
        return x;
    }

    @Edge(promise = 43, says = "Throws `IllegalArgumentException` if a number is out of range, or the day is ahead of the last one")
    static void sameDayAndTheOneAhead() {
        due("the same day", closedOn(7).close(1, 7), 0);
        due("the day behind", closedOn(7).close(1, 8), 0);
        refused("the day ahead", RANGE, () -> closedOn(7), x -> x.close(1, 6));
        due("the last day twice", closedOn(999).close(1, 999), 0);
        refused("ahead of the last day", RANGE, () -> closedOn(999), x -> x.close(1, 998));
        due("the first day twice", closedOn(0).close(1, 0), 0);
    }

    @Edge(promise = 43, says = "not ahead of that of the round closed last, be that undone")
    static void aheadOfAnUndoneOne() {
        Maker undone = () -> {
            TurnFace x = closedOn(7);
            x.undo(0);
            return x;
        };
        refused("the day ahead", RANGE, undone, x -> x.close(1, 6));
        due("the same day", undone.make().close(1, 7), 0);
    }

    @Edge(promise = 43, says = "not ahead of that of the round closed last")
    static void lastInTimeNotByNumber() {
        TurnFace x = rounds(3);
        x.close(2, 3);
        x.close(0, 5);
        fails("between both", RANGE, () -> x.close(1, 4));
        due("the day of the last", x.close(1, 5), 0);
    }

    @Edge(promise = 43, says = "Throws `UnsupportedOperationException` if it is closed")
    static void closedAlready() {
        refused("the same day", REFUSED, () -> closedOn(7), x -> x.close(0, 7));
        refused("the day behind", REFUSED, () -> closedOn(7), x -> x.close(0, 8));
        Maker undone = () -> {
            TurnFace x = closedOn(7);
            x.undo(0);
            return x;
        };
        refused("undone", REFUSED, undone, x -> x.close(0, 8));
    }

    @Edge(promise = 43, says = "A method that throws an exception changes nothing.")
    static void refusedDaysDoNotCount() {
        TurnFace x = closedOn(7);
        fails("closed already", REFUSED, () -> x.close(0, 500));
        fails("out of range", RANGE, () -> x.close(1, 1000));
        due("the day of the last one still", x.close(1, 7), 0);
    }

    @Edge(promise = 43, says = "Returns how many have an attempt.")
    static void noneToTwelve() {
        TurnFace x = competing(12, '5', 0, 0);
        x.round('b', 0, 0);
        x.round('m', 0, 0);
        for (int i = 0; i < 12; i++) {
            times(x, 0, i, i % 2 == 0 ? 5 : -5);
        }
        times(x, 1, 11, -5, -5);
        due("all twelve, half with a result", x.close(0, 0), 12);
        due("one, without a result", x.close(1, 0), 1);
        due("none", x.close(2, 0), 0);
    }

    @Edge(promise = 43, says = "If several exceptions apply, the one that is documented first is thrown.")
    static void closeOfTwo() {
        refused("no round, 1000", INDEX, () -> rounds(1), x -> x.close(1, 1000));
        refused("no round, the day ahead", INDEX, () -> closedOn(7), x -> x.close(2, 6));
        refused("1000, closed", RANGE, () -> closedOn(7), x -> x.close(0, 1000));
        refused("-1, closed", RANGE, () -> closedOn(7), x -> x.close(0, -1));
        refused("the day ahead, closed", RANGE, () -> closedOn(7), x -> x.close(0, 6));
    }

    // ---- promise 44: undo

    @Edge(promise = 44, says = "Throws `IndexOutOfBoundsException` if there is no such round")
    static void undoWithoutRound() {
        refused("none", INDEX, TurnFace::new, x -> x.undo(0));
        refused("1 of one", INDEX, () -> rounds(1), x -> x.undo(1));
        refused("-1", INDEX, () -> rounds(1), x -> x.undo(-1));
        refused("the greatest", INDEX, () -> rounds(1), x -> x.undo(MOST));
    }

    @Edge(promise = 44, says = "Throws `UnsupportedOperationException` if it is not closed, or undone")
    static void notClosedOrUndone() {
        refused("not closed", REFUSED, () -> rounds(1), x -> x.undo(0));
        refused("another one is closed", REFUSED, () -> closedOn(7), x -> x.undo(1));
        Maker undone = () -> {
            TurnFace x = closedOn(7);
            x.undo(0);
            return x;
        };
        refused("undone", REFUSED, undone, x -> x.undo(0));
    }

    @Edge(promise = 44, says = "Returns how many records go with it.")
    static void recordsThatGo() {
        due("no attempt", closedOn(7).undo(0), 0);
        TurnFace x = competing(12, '5', 0, 0);
        for (int i = 0; i < 12; i++) {
            times(x, 0, i, 9, 9, 9, 9, 9);
        }
        x.close(0, 0);
        due("twelve single ones and twelve averages", x.undo(0), 24);
        TurnFace y = one('5', -9, -9, -9, -9, 9);
        y.close(0, 0);
        due("a single one alone", y.undo(0), 1);
        TurnFace z = one('3', 9, 9, 9);
        z.close(0, 0);
        due("another format", z.undo(0), 0);
    }

    @Edge(promise = 44, says = "Returns how many records go with it.")
    static void takenOnTheSameDay() {
        TurnFace x = rounds(2);
        times(x, 0, 0, 9);
        times(x, 1, 1, 8);
        x.close(0, 4);
        x.close(1, 4);
        due("taken", x.undo(0), 0);
        due("the better one", x.undo(1), 1);
    }

    @Edge(promise = 44, says = "its results stay, but make no records")
    static void resultsStay() {
        TurnFace x = one('5', 5, 6, 7, 8, 9);
        x.close(0, 4);
        x.undo(0);
        due("attempts", x.attempts(0, 0), 5);
        due("the best", x.best(0, 0), 5);
        due("the average", x.average(0, 0), 7);
        due("the rank", x.rank(0, 0), 1);
        due("the share", x.resultShare(), 1.0f);
        due("a single record", x.isRecord(0, 0, false), false);
        due("an average record", x.isRecord(0, 0, true), false);
    }

    // ---- promise 45: isRecord

    @Edge(promise = 45, says = "Throws `IndexOutOfBoundsException` if there is no such round or competitor")
    static void recordOfNoneSuch() {
        needsRoundAndCompetitor(x -> x.isRecord(1, 0, true), x -> x.isRecord(-1, 0, false), x -> x.isRecord(0, 1, true), x -> x.isRecord(0, -1, false));
    }

    @Edge(promise = 45, says = "that is told of a round as it is closed")
    static void notYetClosed() {
        TurnFace x = one('5', 5, 5, 5, 5, 5);
        due("single, open", x.isRecord(0, 0, false), false);
        due("average, open", x.isRecord(0, 0, true), false);
        x.close(0, 0);
        due("single, closed on day 0", x.isRecord(0, 0, false), true);
        due("average, closed on day 0", x.isRecord(0, 0, true), true);
    }

    @Edge(promise = 45, says = "A record is the best single result, or average")
    static void withoutAResult() {
        TurnFace x = competing(3, '5', 0, 0);
        times(x, 0, 0, -5);
        times(x, 0, 1, 60, 60, 60, 60);
        x.close(0, 0);
        due("no result", x.isRecord(0, 0, false), false);
        due("no average of four", x.isRecord(0, 1, true), false);
        due("a single result of four", x.isRecord(0, 1, false), true);
        due("no attempt", x.isRecord(0, 2, false), false);
        due("no attempt, average", x.isRecord(0, 2, true), false);
    }

    @Edge(promise = 45, says = "of a region in a format '5' on a day, 0 to 999")
    static void inAFormat5Alone() {
        for (char format : "3b".toCharArray()) {
            TurnFace x = competing(2, format, 0, 0);
            x.round('5', 0, 0);
            times(x, 0, 0, 1, 1, 1);
            times(x, 1, 1, 9, 9, 9, 9, 9);
            x.close(0, 0);
            x.close(1, 1);
            due("'" + format + "'", x.isRecord(0, 0, false), false);
            due("'" + format + "', average", x.isRecord(0, 0, true), false);
            due("'5' behind it", x.isRecord(1, 1, false), true);
            due("'5' behind it, average", x.isRecord(1, 1, true), true);
        }
        TurnFace y = several(new int[] {2, 2, 1});
        y.close(0, 0);
        due("'m'", y.isRecord(0, 0, false), false);
    }

    @Edge(promise = 45, says = "of a region")
    static void inEachRegion() {
        TurnFace x = new TurnFace();
        for (int region = 0; region < 6; region++) {
            x.competitor(region);
        }
        x.competitor(5);
        x.round('5', 0, 0);
        for (int i = 0; i < 7; i++) {
            times(x, 0, i, 10 + i);
        }
        x.close(0, 999);
        for (int region = 0; region < 6; region++) {
            due("the best one of region " + region, x.isRecord(0, region, false), true);
        }
        due("the second one of region 5", x.isRecord(0, 6, false), false);
    }

    private static TurnFace twoDays(int first, int second, int day) {
        TurnFace x = rounds(2);
        times(x, 0, 0, first, first, first, first, first);
        times(x, 1, 1, second, second, second, second, second);
        x.close(0, 4);
        x.close(1, day);
        return x;
    }

    private static void expectRecords(String name, TurnFace x, boolean first, boolean second) {
        due(name + ", the first", x.isRecord(0, 0, false), first);
        due(name + ", the second", x.isRecord(1, 1, false), second);
        due(name + ", the first average", x.isRecord(0, 0, true), first);
        due(name + ", the second average", x.isRecord(1, 1, true), second);
    }

    @Edge(promise = 45, says = "better than all of earlier days")
    static void ofTheDayBehind() {
        expectRecords("better", twoDays(10, 9, 5), true, true);
        expectRecords("as good", twoDays(10, 10, 5), true, false);
        expectRecords("worse", twoDays(10, 11, 5), true, false);
    }

    @Edge(promise = 45, says = "and as good as any of its own day; all as good share it")
    static void ofTheSameDay() {
        expectRecords("better", twoDays(10, 9, 4), false, true);
        expectRecords("as good", twoDays(10, 10, 4), true, true);
        expectRecords("worse", twoDays(10, 11, 4), true, false);
    }

    @Edge(promise = 45, says = "all as good share it")
    static void sharedInOneRound() {
        TurnFace x = once('5', 7, 8, 7, 9);
        x.close(0, 1);
        boolean[] records = {true, false, true, false};
        for (int i = 0; i < 4; i++) {
            due("competitor " + i, x.isRecord(0, i, false), records[i]);
        }
    }

    @Edge(promise = 45, says = "better than all of earlier days")
    static void betterThanEveryDayAhead() {
        TurnFace x = rounds(4);
        int[] told = {10, 8, 9, 7};
        boolean[] records = {true, true, false, true};
        for (int i = 0; i < 4; i++) {
            times(x, i, i % 2, told[i]);
            x.close(i, 10 * i);
        }
        for (int i = 0; i < 4; i++) {
            due("round " + i, x.isRecord(i, i % 2, false), records[i]);
        }
    }

    @Edge(promise = 45, says = "A record is the best single result, or average")
    static void singleAndAverageApart() {
        TurnFace x = competing(2, '5', 0, 0);
        times(x, 0, 0, 1, 50, 50, 50, 50);
        times(x, 0, 1, 40, 40, 40, 40, 40);
        x.close(0, 0);
        due("the best single one", x.isRecord(0, 0, false), true);
        due("its average", x.isRecord(0, 0, true), false);
        due("the best average", x.isRecord(0, 1, true), true);
        due("its single one", x.isRecord(0, 1, false), false);
    }

    @Edge(promise = 45, says = "A round that is undone has none.")
    static void undoneAmongOthers() {
        TurnFace x = twoDays(10, 10, 5);
        x.undo(0);
        expectRecords("as good as one undone", x, false, true);
        TurnFace y = twoDays(10, 11, 4);
        y.undo(0);
        expectRecords("worse than one undone, on its day", y, false, true);
        y.undo(1);
        expectRecords("both undone", y, false, false);
    }
}
