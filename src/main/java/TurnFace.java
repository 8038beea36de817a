import java.util.Arrays;
import java.util.NoSuchElementException;

/** A laboratory of puzzles that turn, of words of turns, and of rounds of attempts. */
public final class TurnFace {
    private static final int MOST_PUZZLES = 4;
    private static final int FEWEST_PLACES = 3;
    private static final int MOST_PLACES = 10;
    private static final int MOST_RINGS = 4;
    private static final int MOST_RING_PLACES = 8;
    private static final int MOST_ARMS = 2 * MOST_RINGS;
    private static final int MOST_TIMES = 20;
    private static final int MOST_STATES = 800;
    private static final int MOST_SEARCHED = 6;
    private static final int LAST_SEED = 99999;
    private static final int MOST_COMPETITORS = 12;
    private static final int MOST_ROUNDS = 8;
    private static final int LAST_DAY = 999;
    private static final int NONE = -1;
    private static final int QUARTERS = 0;
    private static final int TURNS = 1;

    private final int[] typedPlaces;
    private int typedCount;
    private final Puzzle[] puzzles;
    private int puzzleCount;
    private final Word word;
    private final Seeker seeker;
    private final int[] regions;
    private int competitorCount;
    private final Round[] rounds;
    private int roundCount;
    private int closingDay;

    public TurnFace() {
        typedPlaces = new int[MOST_RING_PLACES];
        puzzles = new Puzzle[MOST_PUZZLES];
        word = new Word();
        seeker = new Seeker();
        regions = new int[MOST_COMPETITORS];
        rounds = new Round[MOST_ROUNDS];
    }

    // ---- puzzles

    public int typePlace(int place) throws IllegalArgumentException, UnsupportedOperationException, IllegalStateException {
        checkNumber(place, 0, MOST_PLACES - 1);
        for (int i = 0; i < typedCount && i < MOST_RING_PLACES; i++) {
            if (typedPlaces[i] == place) {
                throw new UnsupportedOperationException("the place is typed");
            }
        }
        if (typedCount >= MOST_RING_PLACES) {
            throw new IllegalStateException("eight places are typed");
        }
        typedPlaces[typedCount] = place;
        typedCount++;
        return typedCount;
    }

    public int wipePlaces() {
        int before = typedCount;
        typedCount = 0;
        return before;
    }

    public int puzzle(int places) throws IllegalArgumentException, IllegalStateException {
        checkNumber(places, FEWEST_PLACES, MOST_PLACES);
        if (puzzleCount >= MOST_PUZZLES) {
            throw new IllegalStateException("there are four puzzles");
        }
        puzzles[puzzleCount] = new Puzzle(places);
        puzzleCount++;
        return puzzleCount - 1;
    }

    public int ring(int puzzle, int step) throws IndexOutOfBoundsException, IllegalArgumentException, IllegalStateException {
        Puzzle found = findPuzzle(puzzle);
        if (typedCount < 2) {
            throw new IllegalArgumentException("too few places are typed");
        }
        for (int i = 0; i < typedCount && i < MOST_RING_PLACES; i++) {
            checkNumber(typedPlaces[i], 0, found.places - 1);
        }
        checkNumber(step, 1, typedCount - 1);
        if (found.ringCount >= MOST_RINGS) {
            throw new IllegalStateException("the puzzle has four rings");
        }
        found.addRing(typedPlaces, typedCount, step);
        typedCount = 0;
        return found.ringCount;
    }

    public int colour(int puzzle, int place, int colour) throws IndexOutOfBoundsException, IllegalArgumentException {
        Puzzle found = findPuzzle(puzzle);
        checkPlace(found, place);
        checkNumber(colour, 0, 9);
        return found.paintPlace(place, colour);
    }

    public int turn(int puzzle, char ring, int times) throws IndexOutOfBoundsException, IllegalArgumentException {
        Puzzle found = findPuzzle(puzzle);
        checkNumber(ring - 'A', 0, found.ringCount - 1);
        checkNumber(times, -MOST_TIMES, MOST_TIMES);
        return found.turnRing(ring - 'A', times);
    }

    public int pieceAt(int puzzle, int place) throws IndexOutOfBoundsException {
        Puzzle found = findPuzzle(puzzle);
        checkPlace(found, place);
        return Row.at(found.state, place);
    }

    public int swap(int puzzle, int piece, int other) throws IndexOutOfBoundsException, IllegalArgumentException {
        Puzzle found = findPuzzle(puzzle);
        checkNumber(piece, 0, found.places - 1);
        checkNumber(other, 0, found.places - 1);
        found.swapPieces(piece, other);
        return found.places - found.strayed();
    }

    public int reset(int puzzle) throws IndexOutOfBoundsException {
        Puzzle found = findPuzzle(puzzle);
        int before = found.strayed();
        found.state = Row.FIRST;
        return before;
    }

    public boolean isSolved(int puzzle) throws IndexOutOfBoundsException {
        Puzzle found = findPuzzle(puzzle);
        return found.shows(found.state);
    }

    // ---- groups

    public long order(int puzzle) throws IndexOutOfBoundsException {
        return findPuzzle(puzzle).chain.size;
    }

    public boolean isIn(int puzzle) throws IndexOutOfBoundsException {
        Puzzle found = findPuzzle(puzzle);
        return found.chain.numberFor(found.state) >= 0;
    }

    public int centre(int puzzle) throws IndexOutOfBoundsException, UnsupportedOperationException {
        Puzzle found = findPuzzle(puzzle);
        checkSmall(found);
        return found.countCentre();
    }

    public int kinds(int puzzle) throws IndexOutOfBoundsException, UnsupportedOperationException {
        Puzzle found = findPuzzle(puzzle);
        checkSmall(found);
        return found.countKinds();
    }

    public boolean isOdd(int puzzle) throws IndexOutOfBoundsException {
        return findPuzzle(puzzle).hasOddRing();
    }

    public int orbits(int puzzle) throws IndexOutOfBoundsException {
        return findPuzzle(puzzle).countOrbits();
    }

    public int period(int puzzle) throws IndexOutOfBoundsException {
        return Row.cycle(findPuzzle(puzzle).state);
    }

    public long numberOf(int puzzle) throws IndexOutOfBoundsException, NoSuchElementException {
        Puzzle found = findPuzzle(puzzle);
        long number = found.chain.numberFor(found.state);
        if (number < 0) {
            throw new NoSuchElementException("the state is not in the group");
        }
        return number;
    }

    public int toNumber(int puzzle, long number) throws IndexOutOfBoundsException, NoSuchElementException {
        Puzzle found = findPuzzle(puzzle);
        if (number < 0 || number >= found.chain.size) {
            throw new NoSuchElementException("there is no such state");
        }
        found.state = found.chain.stateFor(number);
        return found.strayed();
    }

    public long scramble(int puzzle, int seed) throws IndexOutOfBoundsException, IllegalArgumentException {
        Puzzle found = findPuzzle(puzzle);
        checkNumber(seed, 0, LAST_SEED);
        long drawn = seed * 2654435761L;
        drawn = (drawn ^ (drawn >>> 15)) & 0x7fffffffffffffffL;
        long size = found.chain.size;
        long number = size > 0 ? drawn % size : 0;
        found.state = found.chain.stateFor(number);
        return number;
    }

    // ---- graphs

    public int distance(int puzzle, char count) throws IndexOutOfBoundsException, IllegalArgumentException, UnsupportedOperationException, NoSuchElementException {
        Puzzle found = findPuzzle(puzzle);
        int kind = countKind(count);
        checkSmall(found);
        Graph graph = found.measured(kind);
        int place = graph.find(found.state);
        if (place < 0) {
            throw new NoSuchElementException("the state is not in the group");
        }
        return graph.depths[kind][place];
    }

    public int god(int puzzle, char count) throws IndexOutOfBoundsException, IllegalArgumentException, UnsupportedOperationException {
        Puzzle found = findPuzzle(puzzle);
        int kind = countKind(count);
        checkSmall(found);
        return found.measured(kind).greatest(kind);
    }

    public int many(int puzzle, char count, int distance) throws IndexOutOfBoundsException, IllegalArgumentException, UnsupportedOperationException {
        Puzzle found = findPuzzle(puzzle);
        int kind = countKind(count);
        checkSmall(found);
        return found.measured(kind).statesAt(kind, distance);
    }

    public int search(int puzzle, int most) throws IndexOutOfBoundsException, IllegalArgumentException {
        Puzzle found = findPuzzle(puzzle);
        checkNumber(most, 0, MOST_SEARCHED);
        return seeker.seek(found, most);
    }

    public int searchAt(int puzzle, int most, int index) throws IndexOutOfBoundsException, IllegalArgumentException, NoSuchElementException {
        Puzzle found = findPuzzle(puzzle);
        checkNumber(most, 0, MOST_SEARCHED);
        int turns = seeker.seek(found, most);
        if (index < 0 || index >= turns || index >= MOST_SEARCHED) {
            throw new NoSuchElementException("there is no such turn");
        }
        return seeker.way[index];
    }

    // ---- words

    public int type(char sign) throws IllegalArgumentException, IllegalStateException {
        if (!Word.isSign(sign)) {
            throw new IllegalArgumentException("there is no such sign");
        }
        if (word.signCount >= Word.MOST_SIGNS) {
            throw new IllegalStateException("thirty signs are typed");
        }
        word.signs[word.signCount] = sign;
        word.signCount++;
        return word.signCount;
    }

    public int wipe() {
        int before = word.signCount;
        word.signCount = 0;
        return before;
    }

    public boolean isWord() {
        return word.spell() >= 0;
    }

    public int length(char count) throws IllegalArgumentException, UnsupportedOperationException {
        int kind = countKind(count);
        int turns = spelledTurns();
        return kind == QUARTERS ? turns : word.countRuns();
    }

    public int turnAt(int index) throws UnsupportedOperationException, NoSuchElementException {
        int turns = spelledTurns();
        if (index < 0 || index >= turns || index >= Word.MOST_TURNS) {
            throw new NoSuchElementException("there is no such turn");
        }
        return word.turns[index];
    }

    public boolean apply(int puzzle) throws IndexOutOfBoundsException, UnsupportedOperationException {
        Puzzle found = findPuzzle(puzzle);
        spelledTurns();
        if (word.ringsUsed() > found.ringCount) {
            throw new UnsupportedOperationException("the puzzle has no such ring");
        }
        found.state = found.stateAfter(word);
        return found.shows(found.state);
    }

    // ---- attempts

    public int competitor(int region) throws IllegalArgumentException, IllegalStateException {
        checkNumber(region, 0, 5);
        if (competitorCount >= MOST_COMPETITORS) {
            throw new IllegalStateException("there are twelve competitors");
        }
        regions[competitorCount] = region;
        competitorCount++;
        return competitorCount - 1;
    }

    public int round(char format, int limit, int cutoff) throws IllegalArgumentException, IllegalStateException {
        if (!Round.isFormat(format)) {
            throw new IllegalArgumentException("there is no such format");
        }
        checkNumber(limit, 0, 999999);
        checkNumber(cutoff, 0, 59999);
        if (roundCount >= MOST_ROUNDS) {
            throw new IllegalStateException("there are eight rounds");
        }
        rounds[roundCount] = new Round(format, limit, cutoff);
        roundCount++;
        return roundCount - 1;
    }

    public int attempt(int round, int competitor, int inspection, int time, int angle, boolean isPopped) throws IndexOutOfBoundsException, UnsupportedOperationException, IllegalArgumentException {
        Round found = findRound(round);
        checkCompetitor(competitor);
        checkOpen(found, competitor, found.isTimed());
        checkNumber(inspection, 0, 9999);
        checkNumber(time, 1, 59999);
        checkNumber(angle, 0, 359);
        return found.tellTime(competitor, time, Round.penalised(inspection, time, angle, isPopped));
    }

    public int moves(int round, int competitor, int puzzle) throws IndexOutOfBoundsException, UnsupportedOperationException {
        Round found = findRound(round);
        checkCompetitor(competitor);
        Puzzle tried = findPuzzle(puzzle);
        checkOpen(found, competitor, found.format == 'f');
        int result = fewestMoves(tried);
        found.tellResult(competitor, result);
        return result;
    }

    public int several(int round, int competitor, int tried, int solved, int time) throws IndexOutOfBoundsException, UnsupportedOperationException, IllegalArgumentException {
        Round found = findRound(round);
        checkCompetitor(competitor);
        checkOpen(found, competitor, found.format == 'm');
        checkNumber(tried, 2, 60);
        checkNumber(solved, 0, tried);
        checkNumber(time, 1, 359999);
        return found.tellSeveral(competitor, tried, solved, time);
    }

    public int attempts(int round, int competitor) throws IndexOutOfBoundsException {
        Round found = findRound(round);
        checkCompetitor(competitor);
        return found.made[competitor];
    }

    public int best(int round, int competitor) throws IndexOutOfBoundsException, NoSuchElementException {
        Round found = findRound(round);
        checkCompetitor(competitor);
        int result = found.bestOf(competitor);
        if (result < 0) {
            throw new NoSuchElementException("there is no result");
        }
        return result;
    }

    public int average(int round, int competitor) throws IndexOutOfBoundsException, UnsupportedOperationException, NoSuchElementException {
        Round found = findRound(round);
        checkCompetitor(competitor);
        if (!found.isAveraged()) {
            throw new UnsupportedOperationException("the round has no averages");
        }
        int result = found.averageOf(competitor);
        if (result < 0) {
            throw new NoSuchElementException("there is no average");
        }
        return result;
    }

    public int rank(int round, int competitor) throws IndexOutOfBoundsException, NoSuchElementException {
        Round found = findRound(round);
        checkCompetitor(competitor);
        if (found.made[competitor] == 0) {
            throw new NoSuchElementException("there is no attempt");
        }
        return found.countBetter(competitor) + 1;
    }

    public boolean advances(int round, int competitor, int many) throws IndexOutOfBoundsException, IllegalArgumentException {
        Round found = findRound(round);
        checkCompetitor(competitor);
        checkNumber(many, 0, MOST_COMPETITORS);
        return found.goesOn(competitor, many);
    }

    public int close(int round, int day) throws IndexOutOfBoundsException, IllegalArgumentException, UnsupportedOperationException {
        Round found = findRound(round);
        checkNumber(day, closingDay, LAST_DAY);
        if (found.isClosed) {
            throw new UnsupportedOperationException("the round is closed");
        }
        found.isClosed = true;
        found.day = day;
        closingDay = day;
        return found.countStarted();
    }

    public int undo(int round) throws IndexOutOfBoundsException, UnsupportedOperationException {
        Round found = findRound(round);
        if (!found.isClosed || found.isUndone) {
            throw new UnsupportedOperationException("the round is not closed, or undone");
        }
        int records = 0;
        for (int i = 0; i < competitorCount && i < MOST_COMPETITORS; i++) {
            records += holdsRecord(found, i, false) ? 1 : 0;
            records += holdsRecord(found, i, true) ? 1 : 0;
        }
        found.isUndone = true;
        return records;
    }

    public boolean isRecord(int round, int competitor, boolean isAverage) throws IndexOutOfBoundsException {
        Round found = findRound(round);
        checkCompetitor(competitor);
        return holdsRecord(found, competitor, isAverage);
    }

    // ---- figures

    public float resultShare() throws ArithmeticException {
        int all = 0;
        int good = 0;
        for (int i = 0; i < roundCount && i < MOST_ROUNDS; i++) {
            Round found = rounds[i];
            if (found != null) {
                all += found.countAttempts(false);
                good += found.countAttempts(true);
            }
        }
        if (all == 0) {
            throw new ArithmeticException("there are no attempts");
        }
        return (float) good / (float) all;
    }

    public double meanDistance(int puzzle, char count) throws IndexOutOfBoundsException, IllegalArgumentException, UnsupportedOperationException {
        Puzzle found = findPuzzle(puzzle);
        int kind = countKind(count);
        checkSmall(found);
        long sum = found.measured(kind).sumOf(kind);
        long size = found.chain.size;
        return size > 0 ? (double) sum / (double) size : 0;
    }

    public long checksum() {
        long sum = 7;
        for (int i = 0; i < puzzleCount && i < MOST_PUZZLES; i++) {
            Puzzle found = puzzles[i];
            if (found != null) {
                for (int place = 0; place < found.places; place++) {
                    sum = 31 * sum + Row.at(found.state, place);
                }
                sum = 31 * sum + found.chain.size;
            }
        }
        return sum;
    }

    public boolean isSound() {
        for (int i = 0; i < puzzleCount && i < MOST_PUZZLES; i++) {
            Puzzle found = puzzles[i];
            if (found != null && found.isSmall() && !found.isWellMeasured()) {
                return false;
            }
        }
        for (int i = 0; i < roundCount && i < MOST_ROUNDS; i++) {
            Round found = rounds[i];
            if (found != null && !found.keepsThreeQuarters()) {
                return false;
            }
        }
        return true;
    }

    // ---- what the calls above share

    private Puzzle findPuzzle(int number) {
        if (number < 0 || number >= puzzleCount || number >= MOST_PUZZLES) {
            throw new IndexOutOfBoundsException("there is no such puzzle");
        }
        Puzzle found = puzzles[number];
        if (found == null) {
            throw new IndexOutOfBoundsException("there is no such puzzle");
        }
        return found;
    }

    private Round findRound(int number) {
        if (number < 0 || number >= roundCount || number >= MOST_ROUNDS) {
            throw new IndexOutOfBoundsException("there is no such round");
        }
        Round found = rounds[number];
        if (found == null) {
            throw new IndexOutOfBoundsException("there is no such round");
        }
        return found;
    }

    private void checkCompetitor(int number) {
        if (number < 0 || number >= competitorCount || number >= MOST_COMPETITORS) {
            throw new IndexOutOfBoundsException("there is no such competitor");
        }
    }

    private static void checkPlace(Puzzle puzzle, int place) {
        if (place < 0 || place >= puzzle.places) {
            throw new IndexOutOfBoundsException("there is no such place");
        }
    }

    private static void checkNumber(int number, int least, int most) {
        if (number < least || number > most) {
            throw new IllegalArgumentException("a number is out of range");
        }
    }

    private static void checkSmall(Puzzle puzzle) {
        if (!puzzle.isSmall()) {
            throw new UnsupportedOperationException("the puzzle is not small");
        }
    }

    private static void checkOpen(Round round, int competitor, boolean isOfFormat) {
        if (!isOfFormat || round.isClosed || !round.makesMore(competitor)) {
            throw new UnsupportedOperationException("no such attempt can be told");
        }
    }

    private static int countKind(char count) {
        if (count != 'q' && count != 't') {
            throw new IllegalArgumentException("there is no such count");
        }
        return count == 'q' ? QUARTERS : TURNS;
    }

    private int spelledTurns() {
        int turns = word.spell();
        if (turns < 0) {
            throw new UnsupportedOperationException("it is no word that can be spelled out");
        }
        return turns;
    }

    private int fewestMoves(Puzzle puzzle) {
        if (word.spell() <= 0 || word.ringsUsed() > puzzle.ringCount) {
            return 0;
        }
        return puzzle.shows(puzzle.stateAfter(word)) ? word.countRuns() : 0;
    }

    /** Looked up anew each time, since rounds closed later on the same day, or undone, change who has a record. */
    private boolean holdsRecord(Round round, int competitor, boolean isAverage) {
        int own = round.makesRecords() ? round.figureOf(competitor, isAverage) : NONE;
        if (own < 0 || competitor >= MOST_COMPETITORS) {
            return false;
        }
        for (int i = 0; i < roundCount && i < MOST_ROUNDS; i++) {
            Round other = rounds[i];
            if (other != null && other.makesRecords() && other.day <= round.day) {
                int barred = other.day < round.day ? own : own - 1;
                if (hasFigureUpTo(other, regions[competitor], isAverage, barred)) {
                    return false;
                }
            }
        }
        return true;
    }

    private boolean hasFigureUpTo(Round round, int region, boolean isAverage, int barred) {
        for (int i = 0; i < competitorCount && i < MOST_COMPETITORS; i++) {
            int figure = round.figureOf(i, isAverage);
            if (regions[i] == region && figure >= 0 && figure <= barred) {
                return true;
            }
        }
        return false;
    }

    /**
     * Rows of ten numbers of four bits each, in one long: which piece, or colour, is at each place.
     * Place 0 stands highest, so that rows compare as longs just as states are numbered;
     * a puzzle of fewer places leaves those behind them as they are at first.
     */
    private static final class Row {
        static final long FIRST = 0x0123456789L;
        static final int LONGEST_CYCLE = 2520;

        static int at(long row, int place) {
            return (int) (row >>> (4 * (MOST_PLACES - 1 - place))) & 15;
        }

        static long with(long row, int place, int value) {
            int shift = 4 * (MOST_PLACES - 1 - place);
            return (row & ~(15L << shift)) | ((long) (value & 15) << shift);
        }

        /** What the outer row has where the inner row points to. */
        static long through(long outer, long inner) {
            long result = 0;
            for (int shift = 0; shift < 4 * MOST_PLACES; shift += 4) {
                int place = (int) (inner >>> shift) & 15;
                result |= (long) at(outer, place) << shift;
            }
            return result;
        }

        static long back(long row) {
            long result = 0;
            for (int place = 0; place < MOST_PLACES; place++) {
                result = with(result, at(row, place), place);
            }
            return result;
        }

        static int countUnlike(long row, long other) {
            int unlike = 0;
            for (int place = 0; place < MOST_PLACES; place++) {
                unlike += at(row, place) != at(other, place) ? 1 : 0;
            }
            return unlike;
        }

        static int cycle(long row) {
            long power = row;
            int times = 1;
            for (; power != FIRST && times < LONGEST_CYCLE; times++) {
                power = through(power, row);
            }
            return times;
        }

        /** A rearrangement is an odd number of swaps if its places less its cycles are odd. */
        static boolean isOddRow(long row) {
            int seen = 0;
            boolean isOdd = false;
            for (int start = 0; start < MOST_PLACES; start++) {
                int place = start;
                for (int i = 0; i < MOST_PLACES && (seen >>> place & 1) == 0; i++) {
                    seen |= 1 << place;
                    place = at(row, place);
                    isOdd = place != start ? !isOdd : isOdd;
                }
            }
            return isOdd;
        }
    }

    /** A puzzle: its rings, colours and state, with its group and, if that is small, its graph. */
    private static final class Puzzle {
        final int places;
        /** At 2 times a ring's number the row that a turn forward is done through, then that for back. */
        final long[] arms;
        final Chain chain;
        final Graph graph;
        int ringCount;
        long paint;
        long state;

        Puzzle(int places) {
            this.places = places;
            arms = new long[MOST_ARMS];
            chain = new Chain();
            graph = new Graph();
            paint = Row.FIRST;
            state = Row.FIRST;
        }

        void addRing(int[] row, int count, int step) {
            if (count < 2 || count > row.length || step < 1 || ringCount >= MOST_RINGS) {
                return;
            }
            long ahead = Row.FIRST;
            for (int i = 0; i < count; i++) {
                ahead = Row.with(ahead, row[(i + step) % count], row[i]);
            }
            arms[2 * ringCount] = ahead;
            arms[2 * ringCount + 1] = Row.back(ahead);
            ringCount++;
            chain.grow(ahead);
            graph.forget();
            state = Row.FIRST;
        }

        int paintPlace(int place, int colour) {
            int before = Row.at(paint, place);
            paint = Row.with(paint, place, colour);
            graph.forgetDepths();
            return before;
        }

        int turnRing(int ring, int times) {
            int arm = 2 * ring + (times < 0 ? 1 : 0);
            if (arm < 0 || arm >= MOST_ARMS) {
                return 0;
            }
            long before = state;
            int turns = times < 0 ? -times : times;
            for (int i = 0; i < turns; i++) {
                state = Row.through(state, arms[arm]);
            }
            return Row.countUnlike(before, state);
        }

        void swapPieces(int piece, int other) {
            long where = Row.back(state);
            state = Row.with(state, Row.at(where, piece), other);
            state = Row.with(state, Row.at(where, other), piece);
        }

        int strayed() {
            return Row.countUnlike(state, Row.FIRST);
        }

        /** Whether a state shows at each place the colour of that place. */
        boolean shows(long row) {
            return Row.through(paint, row) == paint;
        }

        long stateAfter(Word word) {
            long row = state;
            for (int i = 0; i < word.turnCount && i < Word.MOST_TURNS; i++) {
                int arm = word.turns[i];
                if (arm >= 0 && arm < MOST_ARMS) {
                    row = Row.through(row, arms[arm]);
                }
            }
            return row;
        }

        boolean isSmall() {
            return chain.size <= MOST_STATES;
        }

        boolean hasOddRing() {
            for (int ring = 0; ring < ringCount && ring < MOST_RINGS; ring++) {
                if (Row.isOddRow(arms[2 * ring])) {
                    return true;
                }
            }
            return false;
        }

        int countOrbits() {
            int orbits = 0;
            int seen = 0;
            for (int place = 0; place < places; place++) {
                if ((seen >>> place & 1) == 0) {
                    int orbit = orbitOf(place);
                    orbits += Integer.bitCount(orbit) > 1 ? 1 : 0;
                    seen |= orbit;
                }
            }
            return orbits;
        }

        /** The places that can be come to from one, as bits; each pass finds one more of them at least. */
        private int orbitOf(int start) {
            int orbit = 1 << start;
            for (int pass = 0; pass < MOST_PLACES; pass++) {
                for (int place = 0; place < MOST_PLACES; place++) {
                    for (int ring = 0; ring < ringCount && ring < MOST_RINGS; ring++) {
                        if ((orbit >>> place & 1) == 1) {
                            orbit |= 1 << Row.at(arms[2 * ring], place);
                        }
                    }
                }
            }
            return orbit;
        }

        Graph drawn() {
            if (!graph.isDrawn) {
                graph.draw(chain, arms, 2 * ringCount);
            }
            return graph;
        }

        Graph measured(int kind) {
            drawn().measure(kind, paint);
            return graph;
        }

        int countCentre() {
            drawn();
            int count = 0;
            for (int i = 0; i < graph.size && i < MOST_STATES; i++) {
                count += isCentral(graph.states[i]) ? 1 : 0;
            }
            return count;
        }

        /** To change places with every ring's turn is enough, as all states are made of these. */
        private boolean isCentral(long row) {
            for (int ring = 0; ring < ringCount && ring < MOST_RINGS; ring++) {
                long arm = arms[2 * ring];
                if (Row.through(row, arm) != Row.through(arm, row)) {
                    return false;
                }
            }
            return true;
        }

        /** Each row of colours is shown by as many states as the solved one is, so the order is divided by these. */
        int countKinds() {
            drawn();
            int solved = 0;
            for (int i = 0; i < graph.size && i < MOST_STATES; i++) {
                solved += shows(graph.states[i]) ? 1 : 0;
            }
            return solved > 0 ? graph.size / solved : 0;
        }

        boolean isWellMeasured() {
            drawn();
            if (graph.countWalked() != chain.size) {
                return false;
            }
            for (int kind = QUARTERS; kind <= TURNS; kind++) {
                measured(kind);
                for (int i = 0; i < graph.size && i < MOST_STATES; i++) {
                    if (!shows(graph.states[i]) && !graph.hasNearer(kind, i)) {
                        return false;
                    }
                }
            }
            return true;
        }
    }

    /**
     * The chain of stabilisers of a group: level by level the states that leave all places ahead of the level
     * as they are, one for each piece that they can bring to the level's place. Every state of the group is a
     * product of one of each level, in one way alone.
     */
    private static final class Chain {
        static final int WIDTH = 16;
        static final int MOST_MADE = MOST_PLACES * (MOST_PLACES - 1) / 2;

        /** By level and piece, 0 where there is none; a row of sixteen holds whatever four bits can say. */
        final long[] steps;
        final long[] backs;
        final long[] made;
        final long[] below;
        int madeCount;
        long size;

        Chain() {
            steps = new long[MOST_PLACES * WIDTH];
            backs = new long[MOST_PLACES * WIDTH];
            made = new long[MOST_MADE];
            below = new long[MOST_PLACES];
            for (int level = 0; level < MOST_PLACES; level++) {
                steps[level * WIDTH + level] = Row.FIRST;
                backs[level * WIDTH + level] = Row.FIRST;
                below[level] = 1;
            }
            size = 1;
        }

        /** Takes one more generator in. The table is whole when the products of all its pairs fall through it. */
        void grow(long generator) {
            int settled = madeCount;
            sift(generator);
            for (int i = settled; i < madeCount && i < MOST_MADE; i++) {
                for (int k = 0; k <= i; k++) {
                    sift(Row.through(made[i], made[k]));
                    sift(Row.through(made[k], made[i]));
                }
            }
            countSizes();
        }

        private void sift(long row) {
            long rest = row;
            for (int level = 0; level < MOST_PLACES; level++) {
                int slot = level * WIDTH + Row.at(rest, level);
                if (steps[slot] == 0) {
                    keep(slot, rest);
                    return;
                }
                rest = steps[slot] == Row.FIRST ? rest : Row.through(backs[slot], rest);
            }
        }

        private void keep(int slot, long row) {
            if (madeCount < MOST_MADE) {
                steps[slot] = row;
                backs[slot] = Row.back(row);
                made[madeCount] = row;
                madeCount++;
            }
        }

        private void countSizes() {
            size = 1;
            for (int level = MOST_PLACES - 1; level >= 0; level--) {
                below[level] = size;
                int images = 0;
                for (int piece = 0; piece < MOST_PLACES; piece++) {
                    images += steps[level * WIDTH + piece] != 0 ? 1 : 0;
                }
                size *= images;
            }
        }

        /** The number of a state, or NONE if it is not in the group. */
        long numberFor(long row) {
            long number = 0;
            long done = Row.FIRST;
            long rest = row;
            for (int level = 0; level < MOST_PLACES; level++) {
                int slot = level * WIDTH + Row.at(rest, level);
                if (steps[slot] == 0) {
                    return NONE;
                }
                number += below[level] * countLower(level, Row.back(done), Row.at(row, level));
                done = Row.through(done, steps[slot]);
                rest = Row.through(backs[slot], rest);
            }
            return number;
        }

        private int countLower(int level, long where, int piece) {
            int lower = 0;
            for (int i = 0; i < piece; i++) {
                lower += steps[level * WIDTH + Row.at(where, i)] != 0 ? 1 : 0;
            }
            return lower;
        }

        long stateFor(long number) {
            long done = Row.FIRST;
            long rest = number;
            for (int level = 0; level < MOST_PLACES; level++) {
                long block = below[level];
                if (block > 0) {
                    done = Row.through(done, steps[slotAtRank(level, Row.back(done), rest / block)]);
                    rest %= block;
                }
            }
            return done;
        }

        private int slotAtRank(int level, long where, long rank) {
            long left = rank;
            for (int piece = 0; piece < MOST_PLACES; piece++) {
                int slot = level * WIDTH + Row.at(where, piece);
                if (steps[slot] != 0) {
                    if (left == 0) {
                        return slot;
                    }
                    left--;
                }
            }
            return level * WIDTH + level;
        }
    }

    /** The whole graph of a small puzzle: its states as they are numbered, their neighbours, and distances. */
    private static final class Graph {
        static final int WALKED = 2;

        final long[] states;
        final int[][] next;
        /** By the count in quarters, that in turns, and a walk from the first state. */
        final int[][] depths;
        final boolean[] isMeasured;
        final int[] queue;
        int queued;
        int size;
        int armCount;
        boolean isDrawn;

        Graph() {
            states = new long[MOST_STATES];
            next = new int[MOST_ARMS][MOST_STATES];
            depths = new int[WALKED + 1][MOST_STATES];
            isMeasured = new boolean[WALKED + 1];
            queue = new int[MOST_STATES];
        }

        void forget() {
            isDrawn = false;
            forgetDepths();
        }

        void forgetDepths() {
            isMeasured[QUARTERS] = false;
            isMeasured[TURNS] = false;
        }

        void draw(Chain chain, long[] arms, int count) {
            size = (int) Math.min(chain.size, MOST_STATES);
            armCount = Math.min(count, Math.min(arms.length, MOST_ARMS));
            for (int i = 0; i < size; i++) {
                states[i] = chain.stateFor(i);
            }
            for (int arm = 0; arm < armCount; arm++) {
                for (int i = 0; i < size; i++) {
                    next[arm][i] = Math.max(find(Row.through(states[i], arms[arm])), 0);
                }
            }
            isDrawn = true;
        }

        /** The number of a state, halving; NONE if it is not there. */
        int find(long row) {
            int low = 0;
            int high = size - 1;
            for (int i = 0; i < MOST_STATES && low <= high; i++) {
                int middle = (low + high) >>> 1;
                if (middle >= MOST_STATES) {
                    return NONE;
                }
                if (states[middle] == row) {
                    return middle;
                }
                if (states[middle] < row) {
                    low = middle + 1;
                } else {
                    high = middle - 1;
                }
            }
            return NONE;
        }

        void measure(int kind, long paint) {
            if (isMeasured[kind]) {
                return;
            }
            clear(kind);
            for (int i = 0; i < size; i++) {
                if (Row.through(paint, states[i]) == paint) {
                    reach(kind, i, 0);
                }
            }
            spread(kind);
            isMeasured[kind] = true;
        }

        /** How many states turns make from the first one, which has the number 0. */
        int countWalked() {
            clear(WALKED);
            reach(WALKED, 0, 0);
            spread(WALKED);
            return queued;
        }

        private void clear(int kind) {
            Arrays.fill(depths[kind], NONE);
            queued = 0;
        }

        private void reach(int kind, int state, int depth) {
            if (state >= 0 && state < size && queued < MOST_STATES && depths[kind][state] < 0) {
                depths[kind][state] = depth;
                queue[queued] = state;
                queued++;
            }
        }

        private void spread(int kind) {
            for (int i = 0; i < queued && i < MOST_STATES; i++) {
                int from = queue[i];
                for (int arm = 0; arm < armCount; arm++) {
                    int to = next[arm][from];
                    for (int turn = 0; turn < turnsAtOnce(kind) && to != from; turn++) {
                        reach(kind, to, depths[kind][from] + 1);
                        to = next[arm][to];
                    }
                }
            }
        }

        boolean hasNearer(int kind, int from) {
            for (int arm = 0; arm < armCount; arm++) {
                int to = next[arm][from];
                for (int turn = 0; turn < turnsAtOnce(kind) && to != from; turn++) {
                    if (depths[kind][to] == depths[kind][from] - 1) {
                        return true;
                    }
                    to = next[arm][to];
                }
            }
            return false;
        }

        private static int turnsAtOnce(int kind) {
            return kind == TURNS ? MOST_RING_PLACES : 1;
        }

        int greatest(int kind) {
            int most = 0;
            for (int i = 0; i < size; i++) {
                most = Math.max(most, depths[kind][i]);
            }
            return most;
        }

        int statesAt(int kind, int depth) {
            int count = 0;
            for (int i = 0; i < size; i++) {
                count += depths[kind][i] == depth ? 1 : 0;
            }
            return count;
        }

        long sumOf(int kind) {
            long sum = 0;
            for (int i = 0; i < size; i++) {
                sum += depths[kind][i];
            }
            return sum;
        }
    }

    /**
     * Searches ways to a solved state, deeper and deeper, over rows of colours, of which one alone is solved.
     * The rows up to three turns around that one are gathered ahead, so that the deeper half need not be tried.
     */
    private static final class Seeker {
        static final int HALF_WAY = 3;
        static final int CELLS = 1024;
        static final int MOST_GATHERED = 1 + 8 + 8 * 8 + 8 * 8 * 8;

        final long[] cellRows;
        final int[] cellDepths;
        final long[] gathered;
        final int[] gatheredDepths;
        final int[] way;
        int gatheredCount;

        Seeker() {
            cellRows = new long[CELLS];
            cellDepths = new int[CELLS];
            gathered = new long[MOST_GATHERED];
            gatheredDepths = new int[MOST_GATHERED];
            way = new int[MOST_SEARCHED];
        }

        int seek(Puzzle puzzle, int most) {
            gather(puzzle);
            long start = Row.through(puzzle.paint, puzzle.state);
            for (int turns = 0; turns <= most; turns++) {
                if (reaches(this, puzzle, start, 0, turns)) {
                    return turns;
                }
            }
            return NONE;
        }

        private static boolean reaches(Seeker seeker, Puzzle puzzle, long row, int done, int left) {
            if (left <= HALF_WAY && !seeker.isWithin(row, left)) {
                return false;
            }
            if (left <= 0) {
                return true;
            }
            if (done < 0 || done >= MOST_SEARCHED) {
                return false;
            }
            for (int arm = 0; arm < 2 * puzzle.ringCount && arm < MOST_ARMS; arm++) {
                seeker.way[done] = arm;
                if (reaches(seeker, puzzle, Row.through(row, puzzle.arms[arm]), done + 1, left - 1)) {
                    return true;
                }
            }
            return false;
        }

        private boolean isWithin(long row, int left) {
            int cell = cellFor(row);
            return cellDepths[cell] >= 0 && cellDepths[cell] <= left;
        }

        /** Turns are undone by turns, so the rows around the solved one are those with a way to it. */
        private void gather(Puzzle puzzle) {
            Arrays.fill(cellDepths, NONE);
            gatheredCount = 0;
            take(puzzle.paint, 0);
            for (int i = 0; i < gatheredCount && i < MOST_GATHERED && gatheredDepths[i] < HALF_WAY; i++) {
                for (int arm = 0; arm < 2 * puzzle.ringCount && arm < MOST_ARMS; arm++) {
                    take(Row.through(gathered[i], puzzle.arms[arm]), gatheredDepths[i] + 1);
                }
            }
        }

        private void take(long row, int depth) {
            int cell = cellFor(row);
            if (cellDepths[cell] < 0 && gatheredCount < MOST_GATHERED) {
                cellRows[cell] = row;
                cellDepths[cell] = depth;
                gathered[gatheredCount] = row;
                gatheredDepths[gatheredCount] = depth;
                gatheredCount++;
            }
        }

        /** The cell of a row, or the free one where it belongs; there are always free ones. */
        private int cellFor(long row) {
            int cell = (int) ((row * 0x9E3779B97F4A7C15L) >>> 54) & (CELLS - 1);
            for (int i = 0; i < CELLS && cellDepths[cell] >= 0 && cellRows[cell] != row; i++) {
                cell = (cell + 1) & (CELLS - 1);
            }
            return cell;
        }
    }

    /** The typed signs, and the turns that they are spelled out to. */
    private static final class Word {
        static final int MOST_SIGNS = 30;
        static final int MOST_TURNS = 120;

        final char[] signs;
        final int[] turns;
        final char[] opened;
        final int[] starts;
        final int[] middles;
        int signCount;
        int turnCount;
        int depth;
        int partStart;
        boolean canRepeat;
        boolean canGoBack;

        Word() {
            signs = new char[MOST_SIGNS];
            turns = new int[MOST_TURNS];
            opened = new char[MOST_SIGNS];
            starts = new int[MOST_SIGNS];
            middles = new int[MOST_SIGNS];
        }

        static boolean isSign(char sign) {
            boolean isMark = sign == '-' || sign == '<' || sign == '>' || sign == '[' || sign == '|' || sign == ']';
            return isMark || isLetter(sign) || isDigit(sign);
        }

        private static boolean isLetter(char sign) {
            return sign >= 'A' && sign <= 'D';
        }

        private static boolean isDigit(char sign) {
            return sign >= '2' && sign <= '9';
        }

        /** Spells the signs out; returns how many turns, NONE if they are no word of so few. */
        int spell() {
            turnCount = 0;
            depth = 0;
            endPart();
            for (int i = 0; i < signCount && i < MOST_SIGNS; i++) {
                if (!take(signs[i])) {
                    return NONE;
                }
            }
            return depth == 0 ? turnCount : NONE;
        }

        private boolean take(char sign) {
            if (isLetter(sign)) {
                beginTail(turnCount);
                return add(2 * (sign - 'A'));
            }
            if (isDigit(sign)) {
                return repeat(sign - '0');
            }
            switch (sign) {
                case '<':
                case '[':
                    return open(sign);
                case '|':
                    return divide();
                case '>':
                    return shut('<');
                case ']':
                    return shut('|');
                case '-':
                    return goBack();
                default:
                    return false;
            }
        }

        private void endPart() {
            canRepeat = false;
            canGoBack = false;
        }

        private void beginTail(int start) {
            partStart = start;
            canRepeat = true;
            canGoBack = true;
        }

        private boolean add(int turn) {
            if (turnCount >= MOST_TURNS) {
                return false;
            }
            turns[turnCount] = turn;
            turnCount++;
            return true;
        }

        private boolean addBack(int from, int to) {
            for (int i = to - 1; i >= from && i >= 0; i--) {
                if (i >= MOST_TURNS || !add(turns[i] ^ 1)) {
                    return false;
                }
            }
            return true;
        }

        private boolean repeat(int times) {
            if (!canRepeat) {
                return false;
            }
            canRepeat = false;
            int end = turnCount;
            for (int time = 1; time < times; time++) {
                for (int i = partStart; i < end && i < MOST_TURNS; i++) {
                    if (!add(turns[i])) {
                        return false;
                    }
                }
            }
            return true;
        }

        private boolean goBack() {
            if (!canGoBack) {
                return false;
            }
            endPart();
            int low = partStart;
            int high = turnCount - 1;
            for (; low <= high && low >= 0 && high < MOST_TURNS; low++) {
                int turn = turns[low] ^ 1;
                turns[low] = turns[high] ^ 1;
                turns[high] = turn;
                high--;
            }
            return true;
        }

        private boolean open(char sign) {
            if (depth >= MOST_SIGNS) {
                return false;
            }
            opened[depth] = sign;
            starts[depth] = turnCount;
            depth++;
            endPart();
            return true;
        }

        /** A bracket whose first word has ended is kept as '|', so that it can end but not be divided again. */
        private boolean divide() {
            int top = depth - 1;
            if (top < 0 || top >= MOST_SIGNS || opened[top] != '[') {
                return false;
            }
            opened[top] = '|';
            middles[top] = turnCount;
            endPart();
            return true;
        }

        private boolean shut(char wanted) {
            int top = depth - 1;
            if (top < 0 || top >= MOST_SIGNS || opened[top] != wanted) {
                return false;
            }
            depth = top;
            beginTail(starts[top]);
            int end = turnCount;
            return wanted == '<' || (addBack(starts[top], middles[top]) && addBack(middles[top], end));
        }

        /** How many turns there are if those of one ring behind each other are one. */
        int countRuns() {
            int runs = 0;
            for (int i = 0; i < turnCount && i < MOST_TURNS; i++) {
                runs += i == 0 || turns[i] >> 1 != turns[i - 1] >> 1 ? 1 : 0;
            }
            return runs;
        }

        /** How many rings a puzzle must have, so that all turns can be done on it. */
        int ringsUsed() {
            int rings = 0;
            for (int i = 0; i < turnCount && i < MOST_TURNS; i++) {
                rings = Math.max(rings, (turns[i] >> 1) + 1);
            }
            return rings;
        }
    }

    /** A round: the attempts of all competitors in it, and what they come to. */
    private static final class Round {
        static final int MOST_ATTEMPTS = 5;
        static final int BEHIND_ALL = 0x7fffffff;

        final char format;
        final int limit;
        final int cutoff;
        /** Times or turns, 0 for none; in 'm' points, NONE for none. */
        final int[][] results;
        final int[] made;
        final int[] spent;
        final boolean[] isOver;
        final int[] times;
        final int[] unsolved;
        boolean isClosed;
        boolean isUndone;
        int day;

        Round(char format, int limit, int cutoff) {
            this.format = format;
            this.limit = limit;
            this.cutoff = cutoff;
            results = new int[MOST_COMPETITORS][MOST_ATTEMPTS];
            made = new int[MOST_COMPETITORS];
            spent = new int[MOST_COMPETITORS];
            isOver = new boolean[MOST_COMPETITORS];
            times = new int[MOST_COMPETITORS];
            unsolved = new int[MOST_COMPETITORS];
        }

        static boolean isFormat(char format) {
            return format == '5' || format == '3' || format == 'b' || format == 'f' || format == 'm';
        }

        boolean isTimed() {
            return isAveraged() || format == 'b';
        }

        boolean isAveraged() {
            return format == '5' || format == '3';
        }

        boolean makesRecords() {
            return format == '5' && isClosed && !isUndone;
        }

        private int attemptsInAll() {
            if (format == '5') {
                return 5;
            }
            return format == 'm' ? 1 : 3;
        }

        private boolean isResult(int result) {
            return format == 'm' ? result >= 0 : result > 0;
        }

        boolean makesMore(int competitor) {
            return made[competitor] < attemptsInAll() && !isCutOff(competitor);
        }

        private boolean isCutOff(int competitor) {
            int first = format == '5' ? 2 : 1;
            if (!isAveraged() || cutoff == 0 || made[competitor] < first) {
                return false;
            }
            for (int i = 0; i < first; i++) {
                int result = results[competitor][i];
                if (result > 0 && result < cutoff) {
                    return false;
                }
            }
            return true;
        }

        /** The result of an attempt as told, ahead of any limit; 0 for none. */
        static int penalised(int inspection, int time, int angle, boolean isPopped) {
            int misaligned = Math.min(angle, 360 - angle);
            if (isPopped || inspection > 1700 || misaligned > 45) {
                return 0;
            }
            return time + (inspection > 1500 ? 200 : 0) + (misaligned > 0 ? 200 : 0);
        }

        int tellTime(int competitor, int time, int told) {
            int result = told;
            if (limit > 0 && told > 0 && (isOver[competitor] || spent[competitor] + told > limit)) {
                isOver[competitor] = true;
                result = 0;
            }
            spent[competitor] += result > 0 ? result : time;
            tellResult(competitor, result);
            return result;
        }

        int tellSeveral(int competitor, int tried, int solved, int time) {
            int points = 2 * solved - tried;
            int result = points < (tried == 2 ? 1 : 0) ? NONE : points;
            times[competitor] = time;
            unsolved[competitor] = tried - solved;
            tellResult(competitor, result);
            return result;
        }

        void tellResult(int competitor, int result) {
            int index = made[competitor];
            if (index >= 0 && index < MOST_ATTEMPTS) {
                results[competitor][index] = result;
                made[competitor] = index + 1;
            }
        }

        /** The best result, NONE if there is none. */
        int bestOf(int competitor) {
            int result = NONE;
            for (int i = 0; i < made[competitor] && i < MOST_ATTEMPTS; i++) {
                int other = results[competitor][i];
                if (isResult(other) && (result < 0 || other < result)) {
                    result = other;
                }
            }
            return result;
        }

        /** The average or mean, NONE if there is none. */
        int averageOf(int competitor) {
            if (!isAveraged() || made[competitor] < attemptsInAll()) {
                return NONE;
            }
            int sum = 0;
            int worst = 0;
            int missing = 0;
            for (int i = 0; i < attemptsInAll() && i < MOST_ATTEMPTS; i++) {
                int result = results[competitor][i];
                sum += result;
                worst = Math.max(worst, result);
                missing += result > 0 ? 0 : 1;
            }
            if (missing > (format == '5' ? 1 : 0)) {
                return NONE;
            }
            if (format == '5') {
                sum -= bestOf(competitor) + (missing > 0 ? 0 : worst);
            }
            return (2 * sum + 3) / 6;
        }

        int figureOf(int competitor, boolean isAverage) {
            return isAverage ? averageOf(competitor) : bestOf(competitor);
        }

        /** Below 0 if one ranks ahead of another, 0 if they are alike. */
        private int compareRanks(int one, int other) {
            if (format == 'm') {
                return compareSeveral(one, other);
            }
            int difference = isAveraged() ? compareFigures(averageOf(one), averageOf(other)) : 0;
            return difference != 0 ? difference : compareFigures(bestOf(one), bestOf(other));
        }

        private static int compareFigures(int one, int other) {
            return Integer.compare(one < 0 ? BEHIND_ALL : one, other < 0 ? BEHIND_ALL : other);
        }

        /** Those without a result are alike, whatever time they took. */
        private int compareSeveral(int one, int other) {
            int points = bestOf(one);
            if (points != bestOf(other)) {
                return Integer.compare(bestOf(other), points);
            }
            if (points < 0) {
                return 0;
            }
            int difference = Integer.compare(times[one], times[other]);
            return difference != 0 ? difference : Integer.compare(unsolved[one], unsolved[other]);
        }

        int countBetter(int competitor) {
            int count = 0;
            for (int i = 0; i < MOST_COMPETITORS; i++) {
                count += made[i] > 0 && compareRanks(i, competitor) < 0 ? 1 : 0;
            }
            return count;
        }

        private int countAlike(int competitor) {
            int count = 0;
            for (int i = 0; i < MOST_COMPETITORS; i++) {
                count += made[i] > 0 && compareRanks(i, competitor) == 0 ? 1 : 0;
            }
            return count;
        }

        int countStarted() {
            int count = 0;
            for (int i = 0; i < MOST_COMPETITORS; i++) {
                count += made[i] > 0 ? 1 : 0;
            }
            return count;
        }

        int countAttempts(boolean withResult) {
            int count = 0;
            for (int i = 0; i < MOST_COMPETITORS; i++) {
                for (int k = 0; k < made[i] && k < MOST_ATTEMPTS; k++) {
                    count += !withResult || isResult(results[i][k]) ? 1 : 0;
                }
            }
            return count;
        }

        /** Those alike go on together or not at all, so the last of them must be within three quarters. */
        boolean goesOn(int competitor, int many) {
            if (made[competitor] == 0) {
                return false;
            }
            int most = countStarted() * 3 / 4;
            int better = countBetter(competitor);
            return better < Math.min(many, most) && better + countAlike(competitor) <= most;
        }

        /** The more are told to advance the more do, so to tell all is to look at the most of them. */
        boolean keepsThreeQuarters() {
            int count = 0;
            for (int i = 0; i < MOST_COMPETITORS; i++) {
                count += goesOn(i, MOST_COMPETITORS) ? 1 : 0;
            }
            return 4 * count <= 3 * countStarted();
        }
    }
}
