import java.util.ArrayDeque;
import java.util.ArrayList;
import java.util.Arrays;
import java.util.BitSet;
import java.util.HashMap;
import java.util.HashSet;
import java.util.List;
import java.util.Map;
import java.util.NoSuchElementException;
import java.util.Random;
import java.util.Set;
import java.util.TreeMap;
import java.util.function.Supplier;

/**
 * Long runs of drawn calls, on TurnFace and on a plain model of the document that walks whole groups, searches
 * breadth first and works every attempt out anew. The first unlike answer of a run is printed with the calls ahead of it.
 * Arguments: how many runs (120 if none is told), and the first seed.
 */
public final class ModelTest {
    private static final int CALLS = 512;
    private static final char[] SIGNS = "ABCD23456789-<>[|]".toCharArray();
    private static final Map<String, BitSet> GROUPS = new HashMap<>();

    public static void main(String[] args) {
        int runs = args.length > 0 ? Integer.parseInt(args[0]) : 120;
        int first = args.length > 1 ? Integer.parseInt(args[1]) : 1;
        int wrong = 0;
        for (int seed = first; seed < first + runs && wrong < 5; seed++) {
            wrong += new Run(seed).isAsDue() ? 0 : 1;
        }
        for (int seed = first; seed < first + runs / 8 && wrong < 5; seed++) {
            wrong += new Run(seed).findsWays() ? 0 : 1;
        }
        System.out.println(wrong == 0 ? runs + " runs are as the model has them" : wrong + " runs are not");
        if (wrong != 0) {
            System.exit(1);
        }
    }

    private interface Call {
        Object get();
    }

    /** The answer of a call, or the exception's exact class, so that one thrown by the machine shows. */
    private static String answer(Call call) {
        try {
            return String.valueOf(call.get());
        } catch (RuntimeException e) {
            return "throws." + e.getClass().getSimpleName();
        }
    }

    private static final class Run {
        final Random random;
        final int seed;
        final int kind;
        final TurnFace face = new TurnFace();
        final Model model = new Model();
        final StringBuilder told = new StringBuilder();
        /** Calls that belong together and come next: a ring place by place, or a way back sign by sign. */
        final ArrayDeque<Supplier<String[]>> pending = new ArrayDeque<>();

        Run(int seed) {
            this.seed = seed;
            random = new Random(seed);
            kind = seed % 3;
            if (kind != 1) {
                int competitors = draw(2, 12);
                for (int i = 0; i < competitors; i++) {
                    pending.add(this::drawCompetitor);
                }
                pending.add(this::newRound);
            }
            if (random.nextInt(4) > 0) {
                pending.add(this::newPuzzle);
                pending.add(() -> planRing(0));
            }
        }

        String[] drawCompetitor() {
            int region = random.nextInt(4) > 0 ? draw(0, 1) : wild(0, 5);
            return pair("competitor(" + region + ")", () -> face.competitor(region), () -> model.competitor(region));
        }

        String[] newPuzzle() {
            int n = random.nextInt(12) == 0 ? wild(3, 10) : wild(3, random.nextInt(8) == 0 ? 8 : 6);
            return pair("puzzle(" + n + ")", () -> face.puzzle(n), () -> model.puzzle(n));
        }

        String[] newRound() {
            char format = "553bfm5533bfm1".charAt(random.nextInt(14));
            int limit = random.nextBoolean() ? 0 : wild(0, random.nextBoolean() ? 5000 : 999999);
            int cutoff = random.nextBoolean() ? 0 : wild(0, random.nextBoolean() ? 1300 : 59999);
            return pair("round('" + format + "', " + limit + ", " + cutoff + ")", () -> face.round(format, limit, cutoff), () -> model.round(format, limit, cutoff));
        }

        String[] typeSign(char sign) {
            return pair("type('" + sign + "')", () -> face.type(sign), () -> model.type(sign));
        }

        /** Wipes what is typed, and has a whole ring of unlike places typed and added. */
        String[] planRing(int p) {
            int n = p >= 0 && p < model.puzzles.size() ? model.puzzles.get(p).n : 6;
            List<Integer> places = new ArrayList<>();
            for (int i = 0; i < n; i++) {
                places.add(i);
            }
            java.util.Collections.shuffle(places, random);
            int length = Math.min(Math.min(n, 8), random.nextInt(3) == 0 ? draw(2, 8) : draw(2, 4));
            for (int i = 0; i < length; i++) {
                int a = places.get(i);
                pending.add(() -> pair("typePlace(" + a + ")", () -> face.typePlace(a), () -> model.typePlace(a)));
            }
            int step = draw(1, length - 1);
            pending.add(() -> pair("ring(" + p + ", " + step + ")", () -> face.ring(p, step), () -> model.ring(p, step)));
            if (random.nextInt(3) == 0) {
                pending.add(() -> planRing(p));
            }
            return pair("wipePlaces()", () -> face.wipePlaces(), () -> model.wipePlaces());
        }

        /** Turns a puzzle some times, types the way back, mostly right, and tells or applies it. */
        String[] planWayBack(int p, int r, int c) {
            int rings = p >= 0 && p < model.puzzles.size() ? model.puzzles.get(p).rings.size() : 0;
            StringBuilder back = new StringBuilder();
            int turns = rings == 0 ? 0 : draw(1, 4);
            for (int i = 0; i < turns; i++) {
                char ring = (char) ('A' + random.nextInt(rings));
                int times = draw(-3, 3);
                pending.add(() -> pair("turn(" + p + ", '" + ring + "', " + times + ")", () -> face.turn(p, ring, times), () -> model.turn(p, ring, times)));
                String part = times == 0 ? "" : ring + (Math.abs(times) > 1 ? "" + Math.abs(times) : "") + (times > 0 ? "-" : "");
                back.insert(0, random.nextInt(4) == 0 ? "<" + part + ">" : part);
            }
            pending.add(() -> pair("wipe()", () -> face.wipe(), () -> model.wipe()));
            for (char sign : back.toString().toCharArray()) {
                pending.add(() -> typeSign(sign));
            }
            if (random.nextInt(6) == 0) {
                pending.add(() -> typeSign(anySign()));
            }
            if (r < 0) {
                pending.add(() -> pair("apply(" + p + ")", () -> face.apply(p), () -> model.apply(p)));
            } else {
                pending.add(() -> pair("moves(" + r + ", " + c + ", " + p + ")", () -> face.moves(r, c, p), () -> model.moves(r, c, p)));
            }
            return pair("reset(" + p + ")", () -> face.reset(p), () -> model.reset(p));
        }

        boolean isAsDue() {
            for (int i = 0; i < CALLS; i++) {
                String[] pair = !pending.isEmpty() ? pending.remove().get() : kind == 0 ? drawAny() : kind == 1 ? drawPuzzle() : drawRound();
                told.append(pair[0]).append(" = ").append(pair[1]).append('\n');
                if (!pair[1].equals(pair[2])) {
                    System.out.println(told + "seed " + seed + ", call " + i + ": " + pair[0] + " answered " + pair[1] + ", due is " + pair[2]);
                    return false;
                }
            }
            return true;
        }

        /** Many rings on many places, so that far more states are near than in the other runs. */
        boolean findsWays() {
            pending.clear();
            pending.add(() -> pair("puzzle", () -> face.puzzle(8 + seed % 3), () -> model.puzzle(8 + seed % 3)));
            for (int i = 0; i < 4; i++) {
                pending.add(() -> planRing(0));
            }
            for (int i = 0; i < 3 && seed % 4 == 0; i++) {
                int place = draw(0, 7);
                pending.add(() -> pair("colour", () -> face.colour(0, place, 0), () -> model.colour(0, place, 0)));
            }
            boolean isAsDue = true;
            while (!pending.isEmpty()) {
                isAsDue &= isAlike(pending.remove().get());
            }
            for (int turns = 0; turns < 16; turns++) {
                char ring = (char) ('A' + random.nextInt(model.puzzles.get(0).rings.size()));
                int times = random.nextBoolean() ? 1 : -1;
                isAsDue &= isAlike(pair("turn", () -> face.turn(0, ring, times), () -> model.turn(0, ring, times)));
                int most = turns % 4 == 3 ? 6 : 3 + turns % 3;
                int index = random.nextInt(5);
                isAsDue &= isAlike(pair("search, turn " + turns, () -> face.search(0, most), () -> model.search(0, most)));
                isAsDue &= isAlike(pair("searchAt, turn " + turns, () -> face.searchAt(0, most, index), () -> model.searchAt(0, most, index)));
            }
            return isAsDue;
        }

        boolean isAlike(String[] pair) {
            if (!pair[1].equals(pair[2])) {
                System.out.println("ways, seed " + seed + ": " + pair[0] + " answered " + pair[1] + ", due is " + pair[2]);
            }
            return pair[1].equals(pair[2]);
        }

        int draw(int low, int high) {
            return low + random.nextInt(high - low + 1);
        }

        /** A number of a range, now and then just outside it or far off. */
        int wild(int low, int high) {
            int luck = random.nextInt(100);
            if (luck == 0) {
                return low - 1;
            }
            if (luck == 1) {
                return high + 1;
            }
            if (luck == 2) {
                return random.nextBoolean() ? Integer.MIN_VALUE : Integer.MAX_VALUE;
            }
            return luck == 3 ? low : luck == 4 ? high : draw(low, high);
        }

        int anyPuzzle() {
            return wild(0, Math.max(0, model.puzzles.size() - 1));
        }

        int anyRound() {
            return wild(0, Math.max(0, model.rounds.size() - 1));
        }

        int anyCompetitor() {
            return wild(0, Math.max(0, model.regions.size() - 1));
        }

        int anyPlace(int puzzle) {
            return wild(0, puzzle >= 0 && puzzle < model.puzzles.size() ? model.puzzles.get(puzzle).n - 1 : 9);
        }

        char anyRing(int puzzle) {
            int rings = puzzle >= 0 && puzzle < model.puzzles.size() ? model.puzzles.get(puzzle).rings.size() : 4;
            return (char) ('A' + Math.max(-1, Math.min(300, wild(0, Math.max(0, rings - 1)))));
        }

        char anyCount() {
            return "qtqtqtqtqtqtqtqtqtqx".charAt(random.nextInt(20));
        }

        String[] pair(String name, Call real, Call due) {
            return new String[] {name, answer(real), answer(due)};
        }

        String[] drawAny() {
            return random.nextBoolean() ? drawPuzzle() : drawRound();
        }

        String[] drawPuzzle() {
            if (model.puzzles.isEmpty() && random.nextInt(3) > 0 || random.nextInt(60) == 0) {
                return newPuzzle();
            }
            switch (random.nextInt(8)) {
                case 0:
                    return drawRing();
                case 1:
                case 2:
                    return drawState();
                case 3:
                case 4:
                    return drawGroup();
                case 5:
                    return drawGraph();
                default:
                    return drawWord();
            }
        }

        String[] drawRing() {
            int p = anyPuzzle();
            int luck = random.nextInt(36);
            if (luck == 35) {
                return planRing(p);
            }
            luck /= 3;
            if (luck == 0) {
                return pair("wipePlaces()", () -> face.wipePlaces(), () -> model.wipePlaces());
            }
            if (luck < 9) {
                int a = anyPlace(draw(0, 3));
                return pair("typePlace(" + a + ")", () -> face.typePlace(a), () -> model.typePlace(a));
            }
            int step = wild(1, Math.max(1, model.typed.size() - 1));
            return pair("ring(" + p + ", " + step + ")", () -> face.ring(p, step), () -> model.ring(p, step));
        }

        String[] drawState() {
            int p = anyPuzzle();
            int a = anyPlace(p);
            int b = anyPlace(p);
            int c = wild(0, random.nextInt(3) == 0 ? 9 : 2);
            int times = wild(-20, 20);
            char r = anyRing(p);
            switch (random.nextInt(9)) {
                case 0:
                    return pair("colour(" + p + ", " + a + ", " + c + ")", () -> face.colour(p, a, c), () -> model.colour(p, a, c));
                case 1:
                case 2:
                case 3:
                    return pair("turn(" + p + ", '" + r + "', " + times + ")", () -> face.turn(p, r, times), () -> model.turn(p, r, times));
                case 4:
                    return pair("pieceAt(" + p + ", " + a + ")", () -> face.pieceAt(p, a), () -> model.pieceAt(p, a));
                case 5:
                    return pair("swap(" + p + ", " + a + ", " + b + ")", () -> face.swap(p, a, b), () -> model.swap(p, a, b));
                case 6:
                    return pair("reset(" + p + ")", () -> face.reset(p), () -> model.reset(p));
                case 7:
                    return pair("checksum()", () -> face.checksum(), () -> model.checksum());
                default:
                    return pair("isSolved(" + p + ")", () -> face.isSolved(p), () -> model.isSolved(p));
            }
        }

        String[] drawGroup() {
            int p = anyPuzzle();
            int seed = wild(0, 99999);
            long size = p >= 0 && p < model.puzzles.size() ? model.puzzles.get(p).order() : 10;
            long number = random.nextInt(10) == 0 ? (random.nextBoolean() ? -1 : size) : Math.floorMod(random.nextLong(), size);
            switch (random.nextInt(10)) {
                case 0:
                    return pair("order(" + p + ")", () -> face.order(p), () -> model.order(p));
                case 1:
                    return pair("isIn(" + p + ")", () -> face.isIn(p), () -> model.isIn(p));
                case 2:
                    return pair("centre(" + p + ")", () -> face.centre(p), () -> model.centre(p));
                case 3:
                    return pair("kinds(" + p + ")", () -> face.kinds(p), () -> model.kinds(p));
                case 4:
                    return pair("isOdd(" + p + ")", () -> face.isOdd(p), () -> model.isOdd(p));
                case 5:
                    return pair("orbits(" + p + ")", () -> face.orbits(p), () -> model.orbits(p));
                case 6:
                    return pair("period(" + p + ")", () -> face.period(p), () -> model.period(p));
                case 7:
                    return pair("numberOf(" + p + ")", () -> face.numberOf(p), () -> model.numberOf(p));
                case 8:
                    return pair("toNumber(" + p + ", " + number + ")", () -> face.toNumber(p, number), () -> model.toNumber(p, number));
                default:
                    return pair("scramble(" + p + ", " + seed + ")", () -> face.scramble(p, seed), () -> model.scramble(p, seed));
            }
        }

        String[] drawGraph() {
            int p = anyPuzzle();
            char c = anyCount();
            int most = random.nextInt(4) > 0 ? wild(0, 4) : wild(0, 6);
            int d = wild(0, 8);
            int index = wild(0, 5);
            switch (random.nextInt(7)) {
                case 0:
                    return pair("distance(" + p + ", '" + c + "')", () -> face.distance(p, c), () -> model.distance(p, c));
                case 1:
                    return pair("god(" + p + ", '" + c + "')", () -> face.god(p, c), () -> model.god(p, c));
                case 2:
                    return pair("many(" + p + ", '" + c + "', " + d + ")", () -> face.many(p, c, d), () -> model.many(p, c, d));
                case 3:
                    return pair("search(" + p + ", " + most + ")", () -> face.search(p, most), () -> model.search(p, most));
                case 4:
                    return pair("searchAt(" + p + ", " + most + ", " + index + ")", () -> face.searchAt(p, most, index), () -> model.searchAt(p, most, index));
                case 5:
                    return pair("meanDistance(" + p + ", '" + c + "')", () -> face.meanDistance(p, c), () -> model.meanDistance(p, c));
                default:
                    return pair("isSound()", () -> face.isSound(), () -> true);
            }
        }

        /** What the row lacks to be a word is typed more often than not, so that words come about. */
        char anySign() {
            if (random.nextInt(12) == 0) {
                return SIGNS[random.nextInt(SIGNS.length)];
            }
            String typed = model.signs.toString();
            String open = typed.replaceAll("[^<\\[|>\\]]", "");
            for (int i = 0; i < 30; i++) {
                open = open.replace("<>", "").replace("[|]", "");
            }
            int luck = random.nextInt(10);
            if (luck < 4 && !open.isEmpty()) {
                char last = open.charAt(open.length() - 1);
                return last == '<' ? '>' : last == '[' ? '|' : ']';
            }
            char last = typed.isEmpty() ? '<' : typed.charAt(typed.length() - 1);
            boolean isPart = last >= 'A' && last <= 'D' || last == '>' || last == ']';
            if (luck < 6 && isPart) {
                return random.nextBoolean() ? '-' : (char) ('2' + random.nextInt(random.nextBoolean() ? 2 : 8));
            }
            return luck < 8 ? (char) ('A' + random.nextInt(random.nextInt(4) == 0 ? 4 : 2)) : random.nextBoolean() ? '<' : '[';
        }

        String[] drawWord() {
            int p = anyPuzzle();
            char c = anyCount();
            int index = random.nextInt(4) == 0 ? wild(0, 119) : wild(0, 6);
            int luck = random.nextInt(25);
            if (luck < 13) {
                return typeSign(random.nextInt(60) == 0 ? "01E a(,".charAt(random.nextInt(7)) : anySign());
            }
            if (luck == 24) {
                return planWayBack(p, -1, 0);
            }
            switch (luck) {
                case 13:
                case 14:
                    return pair("isWord()", () -> face.isWord(), () -> model.spell() != null);
                case 15:
                case 16:
                    return pair("length('" + c + "')", () -> face.length(c), () -> model.length(c));
                case 17:
                case 18:
                case 19:
                    return pair("turnAt(" + index + ")", () -> face.turnAt(index), () -> model.turnAt(index));
                case 20:
                case 21:
                case 22:
                    return pair("apply(" + p + ")", () -> face.apply(p), () -> model.apply(p));
                default:
                    return pair("wipe()", () -> face.wipe(), () -> model.wipe());
            }
        }

        String[] drawRound() {
            if (random.nextInt(model.rounds.isEmpty() ? 3 : 30) == 0) {
                return newRound();
            }
            if (random.nextInt(model.regions.size() < 4 ? 4 : 20) == 0) {
                return drawCompetitor();
            }
            int luck = random.nextInt(20);
            if (luck < 9) {
                return drawAttempt();
            }
            return luck < 17 ? drawFigure() : kind == 2 && luck == 17 ? drawPuzzle() : drawClosing();
        }

        String[] drawAttempt() {
            int r = anyRound();
            int c = anyCompetitor();
            char format = r >= 0 && r < model.rounds.size() ? model.rounds.get(r).format : '5';
            int luck = random.nextInt(15) == 0 ? random.nextInt(3) : format == 'f' ? 1 : format == 'm' ? 2 : 0;
            if (luck == 1) {
                int p = anyPuzzle();
                if (format == 'f' && random.nextBoolean()) {
                    return planWayBack(p, r, c);
                }
                return pair("moves(" + r + ", " + c + ", " + p + ")", () -> face.moves(r, c, p), () -> model.moves(r, c, p));
            }
            if (luck == 2) {
                int tried = random.nextInt(3) > 0 ? draw(2, 4) : wild(2, 60);
                int solved = wild(0, Math.max(0, Math.min(60, tried)));
                int time = random.nextInt(3) > 0 ? draw(100, 102) : wild(1, 359999);
                return pair("several(" + r + ", " + c + ", " + tried + ", " + solved + ", " + time + ")", () -> face.several(r, c, tried, solved, time), () -> model.several(r, c, tried, solved, time));
            }
            if (random.nextInt(60) == 0) {
                planAll(r);
            }
            return tellTime(r, c);
        }

        String[] tellTime(int r, int c) {
            int inspection = random.nextInt(3) > 0 ? 0 : random.nextBoolean() ? wild(0, 9999) : 1500 + 100 * draw(0, 2) + draw(0, 1);
            int time = random.nextInt(4) > 0 ? 900 + 100 * draw(0, 4) : wild(1, 59999);
            int angle = random.nextInt(3) > 0 ? 0 : random.nextBoolean() ? wild(0, 359) : draw(0, 3) == 0 ? 314 + draw(0, 2) : 44 + draw(0, 2);
            boolean popped = random.nextInt(12) == 0;
            return pair("attempt(" + r + ", " + c + ", " + inspection + ", " + time + ", " + angle + ", " + popped + ")", () -> face.attempt(r, c, inspection, time, angle, popped), () -> model.attempt(r, c, inspection, time, angle, popped));
        }

        /** Has all competitors make all attempts of a round, in which times are often alike, and looks at it then. */
        void planAll(int r) {
            for (int c = 0; c < model.regions.size(); c++) {
                int competitor = c;
                int attempts = random.nextInt(5) == 0 ? draw(0, 5) : 5;
                for (int i = 0; i < attempts; i++) {
                    pending.add(() -> tellTime(r, competitor));
                }
            }
            if (random.nextBoolean()) {
                pending.add(() -> closeRound(r));
            }
            for (int i = 0; i < 20; i++) {
                int c = anyCompetitor();
                boolean isAverage = random.nextBoolean();
                pending.add(random.nextBoolean() ? this::drawFigure
                    : () -> pair("isRecord(" + r + ", " + c + ", " + isAverage + ")", () -> face.isRecord(r, c, isAverage), () -> model.isRecord(r, c, isAverage)));
            }
        }

        String[] closeRound(int r) {
            int day = random.nextInt(6) == 0 ? wild(0, 999) : model.lastDay + draw(0, 1);
            return pair("close(" + r + ", " + day + ")", () -> face.close(r, day), () -> model.close(r, day));
        }

        String[] drawFigure() {
            int r = anyRound();
            int c = anyCompetitor();
            int many = wild(0, 12);
            switch (random.nextInt(7)) {
                case 0:
                    return pair("attempts(" + r + ", " + c + ")", () -> face.attempts(r, c), () -> model.attempts(r, c));
                case 1:
                    return pair("best(" + r + ", " + c + ")", () -> face.best(r, c), () -> model.best(r, c));
                case 2:
                    return pair("average(" + r + ", " + c + ")", () -> face.average(r, c), () -> model.average(r, c));
                case 3:
                    return pair("rank(" + r + ", " + c + ")", () -> face.rank(r, c), () -> model.rank(r, c));
                case 4:
                case 5:
                    return pair("advances(" + r + ", " + c + ", " + many + ")", () -> face.advances(r, c, many), () -> model.advances(r, c, many));
                default:
                    return pair("resultShare()", () -> face.resultShare(), () -> model.resultShare());
            }
        }

        String[] drawClosing() {
            int r = anyRound();
            int c = anyCompetitor();
            boolean isAverage = random.nextBoolean();
            int luck = random.nextInt(16);
            if (luck == 0) {
                return closeRound(r);
            }
            if (luck == 1 && random.nextBoolean()) {
                return pair("undo(" + r + ")", () -> face.undo(r), () -> model.undo(r));
            }
            if (luck == 2) {
                return pair("isSound()", () -> face.isSound(), () -> true);
            }
            return pair("isRecord(" + r + ", " + c + ", " + isAverage + ")", () -> face.isRecord(r, c, isAverage), () -> model.isRecord(r, c, isAverage));
        }
    }

    // ---- the model

    private static void range(long number, long low, long high) {
        if (number < low || number > high) {
            throw new IllegalArgumentException();
        }
    }

    private static final class MRing {
        int[] row;
        int step;
    }

    private static final class MPuzzle {
        final int n;
        final List<MRing> rings = new ArrayList<>();
        int[] colours;
        int[] at;
        BitSet group;

        MPuzzle(int n) {
            this.n = n;
            colours = first();
            at = first();
        }

        int[] first() {
            int[] result = new int[n];
            for (int i = 0; i < n; i++) {
                result[i] = i;
            }
            return result;
        }

        int[] turned(int[] state, int ring, boolean back) {
            int[] row = rings.get(ring).row;
            int step = rings.get(ring).step;
            int[] result = state.clone();
            for (int i = 0; i < row.length; i++) {
                int to = (i + step) % row.length;
                if (back) {
                    result[row[i]] = state[row[to]];
                } else {
                    result[row[to]] = state[row[i]];
                }
            }
            return result;
        }

        boolean solved(int[] state) {
            for (int i = 0; i < n; i++) {
                if (colours[state[i]] != colours[i]) {
                    return false;
                }
            }
            return true;
        }

        /** The place of a row of pieces among all such rows, lower pieces first. */
        static int lehmer(int[] state) {
            int rank = 0;
            for (int i = 0; i < state.length; i++) {
                int lower = 0;
                for (int k = i + 1; k < state.length; k++) {
                    lower += state[k] < state[i] ? 1 : 0;
                }
                rank = rank * (state.length - i) + lower;
            }
            return rank;
        }

        static int[] unlehmer(int rank, int n) {
            int[] digits = new int[n];
            int rest = rank;
            for (int i = n - 1; i >= 0; i--) {
                digits[i] = rest % (n - i);
                rest /= n - i;
            }
            List<Integer> left = new ArrayList<>();
            for (int i = 0; i < n; i++) {
                left.add(i);
            }
            int[] state = new int[n];
            for (int i = 0; i < n; i++) {
                state[i] = left.remove(digits[i]);
            }
            return state;
        }

        BitSet group() {
            if (group == null) {
                StringBuilder key = new StringBuilder().append(n);
                for (MRing ring : rings) {
                    key.append(' ').append(Arrays.toString(ring.row)).append(ring.step);
                }
                group = GROUPS.computeIfAbsent(key.toString(), k -> walk());
            }
            return group;
        }

        BitSet walk() {
            BitSet seen = new BitSet();
            ArrayList<int[]> front = new ArrayList<>();
            front.add(first());
            seen.set(lehmer(first()));
            while (!front.isEmpty()) {
                ArrayList<int[]> behind = new ArrayList<>();
                for (int[] state : front) {
                    for (int r = 0; r < rings.size(); r++) {
                        int[] to = turned(state, r, false);
                        int rank = lehmer(to);
                        if (!seen.get(rank)) {
                            seen.set(rank);
                            behind.add(to);
                        }
                    }
                }
                front = behind;
            }
            return seen;
        }

        long order() {
            return group().cardinality();
        }

        int away() {
            int count = 0;
            for (int i = 0; i < n; i++) {
                count += at[i] != i ? 1 : 0;
            }
            return count;
        }

        List<int[]> states() {
            List<int[]> result = new ArrayList<>();
            for (int i = group().nextSetBit(0); i >= 0; i = group().nextSetBit(i + 1)) {
                result.add(unlehmer(i, n));
            }
            return result;
        }

        TreeMap<Integer, Integer> distances(char count) {
            TreeMap<Integer, Integer> result = new TreeMap<>();
            List<int[]> front = new ArrayList<>();
            for (int[] state : states()) {
                if (solved(state)) {
                    front.add(state);
                    result.put(lehmer(state), 0);
                }
            }
            for (int d = 1; !front.isEmpty(); d++) {
                List<int[]> behind = new ArrayList<>();
                for (int[] state : front) {
                    for (int r = 0; r < rings.size(); r++) {
                        int[] ahead = state;
                        int[] back = state;
                        for (int i = 0; i < (count == 'q' ? 1 : 20); i++) {
                            ahead = turned(ahead, r, false);
                            back = turned(back, r, true);
                            if (result.putIfAbsent(lehmer(ahead), d) == null) {
                                behind.add(ahead);
                            }
                            if (result.putIfAbsent(lehmer(back), d) == null) {
                                behind.add(back);
                            }
                        }
                    }
                }
                front = behind;
            }
            return result;
        }

        /** Breadth first, turns in their order: the way that comes to a solved state first is the first one of the shortest. */
        int[] way(int most) {
            List<int[]> front = new ArrayList<>();
            List<int[]> ways = new ArrayList<>();
            Set<Integer> seen = new HashSet<>();
            front.add(at);
            ways.add(new int[0]);
            seen.add(lehmer(at));
            for (int i = 0; i < front.size(); i++) {
                if (solved(front.get(i))) {
                    return ways.get(i);
                }
                int[] way = ways.get(i);
                for (int arm = 0; way.length < most && arm < 2 * rings.size(); arm++) {
                    int[] to = turned(front.get(i), arm / 2, arm % 2 == 1);
                    if (seen.add(lehmer(to))) {
                        front.add(to);
                        int[] longer = Arrays.copyOf(way, way.length + 1);
                        longer[way.length] = arm;
                        ways.add(longer);
                    }
                }
            }
            return null;
        }
    }

    private static final class MAttempt {
        int inspection;
        int time;
        int angle;
        boolean popped;
        int result;
        int tried;
        int solved;
    }

    private static final class MRound {
        char format;
        int limit;
        int cutoff;
        boolean closed;
        boolean undone;
        int day;
        final Map<Integer, List<MAttempt>> told = new HashMap<>();

        List<MAttempt> of(int c) {
            return told.getOrDefault(c, new ArrayList<>());
        }

        int most() {
            return format == '5' ? 5 : format == 'm' ? 1 : 3;
        }

        /** All results of a competitor, from what was told; -1 for none. */
        List<Integer> results(int c) {
            List<Integer> results = new ArrayList<>();
            long sum = 0;
            boolean over = false;
            for (MAttempt a : of(c)) {
                int result;
                if (format == 'f') {
                    result = a.result > 0 ? a.result : -1;
                } else if (format == 'm') {
                    int points = a.solved - (a.tried - a.solved);
                    result = points < 0 || a.tried == 2 && points < 1 ? -1 : points;
                } else {
                    result = a.time;
                    int angle = a.angle > 180 ? 360 - a.angle : a.angle;
                    result += a.inspection > 1500 ? 200 : 0;
                    result += angle > 0 ? 200 : 0;
                    result = a.popped || a.inspection > 1700 || angle > 45 ? -1 : result;
                    if (limit > 0 && result > 0 && sum + result > limit) {
                        over = true;
                    }
                    result = over ? -1 : result;
                    sum += result > 0 ? result : a.time;
                }
                results.add(result);
            }
            return results;
        }

        boolean canMore(int c) {
            List<Integer> results = results(c);
            if (results.size() >= most()) {
                return false;
            }
            int first = format == '5' ? 2 : format == '3' ? 1 : 99;
            if (cutoff == 0 || results.size() < first) {
                return true;
            }
            return results.subList(0, first).stream().anyMatch(r -> r > 0 && r < cutoff);
        }

        Integer best(int c) {
            return format == 'm'
                ? results(c).stream().filter(r -> r >= 0).max(Integer::compare).orElse(null)
                : results(c).stream().filter(r -> r > 0).min(Integer::compare).orElse(null);
        }

        Integer average(int c) {
            List<Integer> sorted = new ArrayList<>();
            for (int r : results(c)) {
                sorted.add(r < 0 ? 1000000 : r);
            }
            if (format != '5' && format != '3' || sorted.size() < most()) {
                return null;
            }
            sorted.sort(null);
            List<Integer> kept = format == '5' ? sorted.subList(1, 4) : sorted;
            int sum = kept.get(0) + kept.get(1) + kept.get(2);
            return kept.get(2) == 1000000 ? null : (int) Math.floor(sum / 3.0 + 0.5);
        }

        /** What a competitor is ranked by, lower ahead. */
        long[] key(int c) {
            long none = 10000000;
            if (format == 'm') {
                Integer points = best(c);
                MAttempt a = of(c).get(0);
                return points == null ? new long[] {none, 0, 0} : new long[] {-points, a.time, a.tried - a.solved};
            }
            Integer average = average(c);
            Integer best = best(c);
            return new long[] {average == null ? none : average, best == null ? none : best, 0};
        }

        List<Integer> ranked() {
            List<Integer> list = new ArrayList<>(told.keySet());
            list.sort((a, b) -> Arrays.compare(key(a), key(b)));
            return list;
        }

        int rank(int c) {
            List<Integer> list = ranked();
            for (int i = 0; i < list.size(); i++) {
                if (Arrays.equals(key(list.get(i)), key(c))) {
                    return i + 1;
                }
            }
            return -1;
        }

        Set<Integer> advancing(int many) {
            List<Integer> list = ranked();
            int cap = list.size() * 3 / 4;
            int wanted = Math.min(many, cap);
            Set<Integer> result = new HashSet<>();
            int i = 0;
            while (i < wanted) {
                int end = i;
                while (end < list.size() && Arrays.equals(key(list.get(i)), key(list.get(end)))) {
                    end++;
                }
                if (end > cap) {
                    break;
                }
                result.addAll(list.subList(i, end));
                i = end;
            }
            return result;
        }
    }

    private static final class Model {
        final List<Integer> typed = new ArrayList<>();
        final List<MPuzzle> puzzles = new ArrayList<>();
        final StringBuilder signs = new StringBuilder();
        final List<Integer> regions = new ArrayList<>();
        final List<MRound> rounds = new ArrayList<>();
        int lastDay;

        MPuzzle find(int p) {
            if (p < 0 || p >= puzzles.size()) {
                throw new IndexOutOfBoundsException();
            }
            return puzzles.get(p);
        }

        MPuzzle place(int p, int place) {
            MPuzzle m = find(p);
            if (place < 0 || place >= m.n) {
                throw new IndexOutOfBoundsException();
            }
            return m;
        }

        MPuzzle small(int p) {
            MPuzzle m = find(p);
            if (m.order() > 800) {
                throw new UnsupportedOperationException();
            }
            return m;
        }

        MPuzzle small(int p, char count) {
            find(p);
            count(count);
            return small(p);
        }

        void count(char count) {
            range("qt".indexOf(count), 0, 1);
        }

        int typePlace(int a) {
            range(a, 0, 9);
            if (typed.contains(a)) {
                throw new UnsupportedOperationException();
            }
            if (typed.size() == 8) {
                throw new IllegalStateException();
            }
            typed.add(a);
            return typed.size();
        }

        int wipePlaces() {
            int n = typed.size();
            typed.clear();
            return n;
        }

        int puzzle(int n) {
            range(n, 3, 10);
            if (puzzles.size() == 4) {
                throw new IllegalStateException();
            }
            puzzles.add(new MPuzzle(n));
            return puzzles.size() - 1;
        }

        int ring(int p, int step) {
            MPuzzle m = find(p);
            range(typed.size(), 2, 8);
            for (int a : typed) {
                range(a, 0, m.n - 1);
            }
            range(step, 1, typed.size() - 1);
            if (m.rings.size() == 4) {
                throw new IllegalStateException();
            }
            MRing ring = new MRing();
            ring.row = typed.stream().mapToInt(i -> i).toArray();
            ring.step = step;
            m.rings.add(ring);
            m.group = null;
            m.at = m.first();
            typed.clear();
            return m.rings.size();
        }

        int colour(int p, int a, int c) {
            MPuzzle m = place(p, a);
            range(c, 0, 9);
            int before = m.colours[a];
            m.colours[a] = c;
            return before;
        }

        int turn(int p, char r, int times) {
            MPuzzle m = find(p);
            range(r - 'A', 0, m.rings.size() - 1);
            range(times, -20, 20);
            int[] before = m.at;
            for (int i = 0; i < Math.abs(times); i++) {
                m.at = m.turned(m.at, r - 'A', times < 0);
            }
            int count = 0;
            for (int i = 0; i < m.n; i++) {
                count += before[i] != m.at[i] ? 1 : 0;
            }
            return count;
        }

        int pieceAt(int p, int a) {
            return place(p, a).at[a];
        }

        int swap(int p, int a, int b) {
            MPuzzle m = find(p);
            range(a, 0, m.n - 1);
            range(b, 0, m.n - 1);
            int[] next = m.at.clone();
            for (int i = 0; i < m.n; i++) {
                next[i] = m.at[i] == a ? b : m.at[i] == b ? a : m.at[i];
            }
            m.at = next;
            return m.n - m.away();
        }

        int reset(int p) {
            MPuzzle m = find(p);
            int away = m.away();
            m.at = m.first();
            return away;
        }

        boolean isSolved(int p) {
            return find(p).solved(find(p).at);
        }

        long order(int p) {
            return find(p).order();
        }

        boolean isIn(int p) {
            return find(p).group().get(MPuzzle.lehmer(find(p).at));
        }

        static int[] after(int[] a, int[] b) {
            int[] result = new int[a.length];
            for (int i = 0; i < a.length; i++) {
                result[i] = a[b[i]];
            }
            return result;
        }

        int centre(int p) {
            List<int[]> states = small(p).states();
            int count = 0;
            for (int[] a : states) {
                boolean all = true;
                for (int[] b : states) {
                    all = all && Arrays.equals(after(a, b), after(b, a));
                }
                count += all ? 1 : 0;
            }
            return count;
        }

        int kinds(int p) {
            MPuzzle m = small(p);
            Set<String> rows = new HashSet<>();
            for (int[] state : m.states()) {
                rows.add(Arrays.toString(after(m.colours, state)));
            }
            return rows.size();
        }

        boolean isOdd(int p) {
            MPuzzle m = find(p);
            for (int r = 0; r < m.rings.size(); r++) {
                int[] a = m.turned(m.first(), r, false);
                int swaps = 0;
                for (int i = 0; i < m.n; i++) {
                    for (int k = i + 1; k < m.n; k++) {
                        swaps += a[i] > a[k] ? 1 : 0;
                    }
                }
                if (swaps % 2 == 1) {
                    return true;
                }
            }
            return false;
        }

        int orbits(int p) {
            MPuzzle m = find(p);
            int[] mark = m.first();
            for (int pass = 0; pass < 10; pass++) {
                for (MRing ring : m.rings) {
                    for (int i = 0; i < ring.row.length; i++) {
                        int a = ring.row[i];
                        int b = ring.row[(i + ring.step) % ring.row.length];
                        mark[a] = mark[b] = Math.min(mark[a], mark[b]);
                    }
                }
            }
            Map<Integer, Integer> sizes = new HashMap<>();
            for (int i : mark) {
                sizes.merge(i, 1, Integer::sum);
            }
            return (int) sizes.values().stream().filter(s -> s > 1).count();
        }

        int period(int p) {
            int[] a = find(p).at;
            int[] power = a;
            int times = 1;
            while (!Arrays.equals(power, find(p).first())) {
                power = after(power, a);
                times++;
            }
            return times;
        }

        long numberOf(int p) {
            if (!isIn(p)) {
                throw new NoSuchElementException();
            }
            return find(p).group().get(0, MPuzzle.lehmer(find(p).at)).cardinality();
        }

        int toNumber(int p, long number) {
            MPuzzle m = find(p);
            if (number < 0 || number >= m.order()) {
                throw new NoSuchElementException();
            }
            int bit = m.group().nextSetBit(0);
            for (long i = 0; i < number; i++) {
                bit = m.group().nextSetBit(bit + 1);
            }
            m.at = MPuzzle.unlehmer(bit, m.n);
            return m.away();
        }

        long scramble(int p, int seed) {
            MPuzzle m = find(p);
            range(seed, 0, 99999);
            java.math.BigInteger z = java.math.BigInteger.valueOf(seed).multiply(new java.math.BigInteger("2654435761"));
            long number = z.xor(z.shiftRight(15)).mod(java.math.BigInteger.valueOf(m.order())).longValue();
            toNumber(p, number);
            return number;
        }

        int distance(int p, char c) {
            Integer d = small(p, c).distances(c).get(MPuzzle.lehmer(find(p).at));
            if (d == null) {
                throw new NoSuchElementException();
            }
            return d;
        }

        int god(int p, char c) {
            return small(p, c).distances(c).values().stream().max(Integer::compare).get();
        }

        int many(int p, char c, int d) {
            return (int) small(p, c).distances(c).values().stream().filter(x -> x == d).count();
        }

        double meanDistance(int p, char c) {
            MPuzzle m = small(p, c);
            int sum = m.distances(c).values().stream().mapToInt(x -> x).sum();
            return (double) sum / (double) m.order();
        }

        int search(int p, int most) {
            MPuzzle m = find(p);
            range(most, 0, 6);
            int[] way = m.way(most);
            return way == null ? -1 : way.length;
        }

        int searchAt(int p, int most, int index) {
            MPuzzle m = find(p);
            range(most, 0, 6);
            int[] way = m.way(most);
            if (way == null || index < 0 || index >= way.length) {
                throw new NoSuchElementException();
            }
            return way[index];
        }

        int type(char sign) {
            range(new String(SIGNS).indexOf(sign), 0, 99);
            if (signs.length() == 30) {
                throw new IllegalStateException();
            }
            signs.append(sign);
            return signs.length();
        }

        int wipe() {
            int n = signs.length();
            signs.setLength(0);
            return n;
        }

        // a reader of words that goes down part by part

        int read;

        List<Integer> spell() {
            read = 0;
            List<Integer> word = word();
            return word == null || read < signs.length() ? null : word;
        }

        char sign() {
            return read < signs.length() ? signs.charAt(read) : 0;
        }

        boolean eat(char sign) {
            boolean is = sign() == sign;
            read += is ? 1 : 0;
            return is;
        }

        List<Integer> word() {
            List<Integer> all = new ArrayList<>();
            while (sign() >= 'A' && sign() <= 'D' || sign() == '<' || sign() == '[') {
                List<Integer> part = part();
                if (part == null) {
                    return null;
                }
                all.addAll(part);
            }
            return all.size() > 120 ? null : all;
        }

        static List<Integer> backwards(List<Integer> word) {
            List<Integer> result = new ArrayList<>();
            for (int turn : word) {
                result.add(0, turn % 2 == 0 ? turn + 1 : turn - 1);
            }
            return result;
        }

        List<Integer> part() {
            List<Integer> base = new ArrayList<>();
            if (eat('<')) {
                base = word();
                if (base == null || !eat('>')) {
                    return null;
                }
            } else if (eat('[')) {
                List<Integer> one = word();
                if (one == null || !eat('|')) {
                    return null;
                }
                List<Integer> two = word();
                if (two == null || !eat(']')) {
                    return null;
                }
                base.addAll(one);
                base.addAll(two);
                base.addAll(backwards(one));
                base.addAll(backwards(two));
            } else {
                base.add(2 * (sign() - 'A'));
                read++;
            }
            List<Integer> all = new ArrayList<>(base);
            if (sign() >= '2' && sign() <= '9') {
                for (int i = 1; i < sign() - '0'; i++) {
                    all.addAll(base);
                }
                read++;
            }
            return eat('-') ? backwards(all) : all;
        }

        List<Integer> mustSpell() {
            List<Integer> word = spell();
            if (word == null) {
                throw new UnsupportedOperationException();
            }
            return word;
        }

        static int runs(List<Integer> word) {
            StringBuilder rings = new StringBuilder();
            for (int turn : word) {
                rings.append((char) ('A' + turn / 2));
            }
            return rings.toString().replaceAll("(.)\\1*", "x").length();
        }

        int length(char c) {
            count(c);
            List<Integer> word = mustSpell();
            return c == 'q' ? word.size() : runs(word);
        }

        int turnAt(int index) {
            List<Integer> word = mustSpell();
            if (index < 0 || index >= word.size()) {
                throw new NoSuchElementException();
            }
            return word.get(index);
        }

        int[] applied(MPuzzle m, List<Integer> word) {
            int[] state = m.at;
            for (int turn : word) {
                if (turn / 2 >= m.rings.size()) {
                    return null;
                }
                state = m.turned(state, turn / 2, turn % 2 == 1);
            }
            return state;
        }

        boolean apply(int p) {
            MPuzzle m = find(p);
            int[] state = applied(m, mustSpell());
            if (state == null) {
                throw new UnsupportedOperationException();
            }
            m.at = state;
            return m.solved(state);
        }

        int competitor(int region) {
            range(region, 0, 5);
            if (regions.size() == 12) {
                throw new IllegalStateException();
            }
            regions.add(region);
            return regions.size() - 1;
        }

        int round(char format, int limit, int cutoff) {
            range("53bfm".indexOf(format), 0, 4);
            range(limit, 0, 999999);
            range(cutoff, 0, 59999);
            if (rounds.size() == 8) {
                throw new IllegalStateException();
            }
            MRound round = new MRound();
            round.format = format;
            round.limit = limit;
            round.cutoff = cutoff;
            rounds.add(round);
            return rounds.size() - 1;
        }

        MRound of(int r, int c) {
            if (r < 0 || r >= rounds.size() || c < 0 || c >= regions.size()) {
                throw new IndexOutOfBoundsException();
            }
            return rounds.get(r);
        }

        MRound open(int r, int c, String formats) {
            MRound round = of(r, c);
            if (formats.indexOf(round.format) < 0 || round.closed || !round.canMore(c)) {
                throw new UnsupportedOperationException();
            }
            return round;
        }

        int tell(MRound round, int c, MAttempt a) {
            round.told.computeIfAbsent(c, k -> new ArrayList<>()).add(a);
            List<Integer> results = round.results(c);
            return results.get(results.size() - 1);
        }

        int attempt(int r, int c, int inspection, int time, int angle, boolean popped) {
            MRound round = open(r, c, "53b");
            range(inspection, 0, 9999);
            range(time, 1, 59999);
            range(angle, 0, 359);
            MAttempt a = new MAttempt();
            a.inspection = inspection;
            a.time = time;
            a.angle = angle;
            a.popped = popped;
            return Math.max(0, tell(round, c, a));
        }

        int moves(int r, int c, int p) {
            of(r, c);
            MPuzzle m = find(p);
            MRound round = open(r, c, "f");
            MAttempt a = new MAttempt();
            List<Integer> word = spell();
            int[] state = word == null ? null : applied(m, word);
            a.result = state != null && m.solved(state) ? runs(word) : 0;
            return Math.max(0, tell(round, c, a));
        }

        int several(int r, int c, int tried, int solved, int time) {
            MRound round = open(r, c, "m");
            range(tried, 2, 60);
            range(solved, 0, tried);
            range(time, 1, 359999);
            MAttempt a = new MAttempt();
            a.tried = tried;
            a.solved = solved;
            a.time = time;
            return tell(round, c, a);
        }

        int attempts(int r, int c) {
            return of(r, c).of(c).size();
        }

        static int must(Integer figure) {
            if (figure == null) {
                throw new NoSuchElementException();
            }
            return figure;
        }

        int best(int r, int c) {
            return must(of(r, c).best(c));
        }

        int average(int r, int c) {
            if ("53".indexOf(of(r, c).format) < 0) {
                throw new UnsupportedOperationException();
            }
            return must(of(r, c).average(c));
        }

        int rank(int r, int c) {
            must(of(r, c).told.containsKey(c) ? 1 : null);
            return of(r, c).rank(c);
        }

        boolean advances(int r, int c, int many) {
            MRound round = of(r, c);
            range(many, 0, 12);
            return round.advancing(many).contains(c);
        }

        int close(int r, int day) {
            if (r < 0 || r >= rounds.size()) {
                throw new IndexOutOfBoundsException();
            }
            range(day, lastDay, 999);
            MRound round = rounds.get(r);
            if (round.closed) {
                throw new UnsupportedOperationException();
            }
            round.closed = true;
            round.day = day;
            lastDay = day;
            return round.told.size();
        }

        int undo(int r) {
            if (r < 0 || r >= rounds.size()) {
                throw new IndexOutOfBoundsException();
            }
            if (!rounds.get(r).closed || rounds.get(r).undone) {
                throw new UnsupportedOperationException();
            }
            int records = 0;
            for (int c = 0; c < regions.size(); c++) {
                records += (isRecord(r, c, false) ? 1 : 0) + (isRecord(r, c, true) ? 1 : 0);
            }
            rounds.get(r).undone = true;
            return records;
        }

        /** Day by day the best figure of each region, as it is better than that of all earlier days. */
        boolean isRecord(int r, int c, boolean isAverage) {
            MRound round = of(r, c);
            Integer own = isAverage ? round.average(c) : round.best(c);
            if (own == null || !round.closed || round.undone || round.format != '5') {
                return false;
            }
            int best = Integer.MAX_VALUE;
            for (int day = 0; day <= round.day; day++) {
                int today = Integer.MAX_VALUE;
                for (MRound other : rounds) {
                    for (int k = 0; other.closed && !other.undone && other.format == '5' && other.day == day && k < regions.size(); k++) {
                        Integer figure = isAverage ? other.average(k) : other.best(k);
                        if (figure != null && regions.get(k).equals(regions.get(c))) {
                            today = Math.min(today, figure);
                        }
                    }
                }
                if (day == round.day) {
                    return own == today && today < best;
                }
                best = Math.min(best, today);
            }
            return false;
        }

        float resultShare() {
            int all = 0;
            int good = 0;
            for (MRound round : rounds) {
                for (int c : round.told.keySet()) {
                    for (int result : round.results(c)) {
                        all++;
                        good += result >= 0 ? 1 : 0;
                    }
                }
            }
            if (all == 0) {
                throw new ArithmeticException();
            }
            return (float) good / (float) all;
        }

        long checksum() {
            long sum = 7;
            for (MPuzzle m : puzzles) {
                for (int piece : m.at) {
                    sum = 31 * sum + piece;
                }
                sum = 31 * sum + m.order();
            }
            return sum;
        }
    }
}
