/** Promises 27 to 32, words: each boundary that a sentence names, by itself. */
public final class WordEdgesTest extends Lab {
    private static final String THIRTY = "ABCDABCDABCDABCDABCDABCDABCDAB";
    private static final String TURNS_120 = "<<A5>4>6";
    private static final String SIGNS = "ABCD23456789-<>[|]";

    public static void main(String[] args) throws IllegalAccessException {
        runEdges(WordEdgesTest.class);
    }

    private static void expectWord(String row, int turns) {
        TurnFace x = worded(row);
        due("'" + row + "' is a word", x.isWord(), true);
        due("'" + row + "' has turns", x.length('q'), turns);
    }

    private static void expectNoWord(String row) {
        due("'" + row + "' is a word", worded(row).isWord(), false);
    }

    /** Each turn as it is told, a digit from 0 to 7. */
    private static void expectTurns(String row, String turns) {
        expectWord(row, turns.length());
        TurnFace x = worded(row);
        for (int i = 0; i < turns.length(); i++) {
            due("'" + row + "' at " + i, x.turnAt(i), turns.charAt(i) - '0');
        }
    }

    // ---- promise 27: type

    @Edge(promise = 27, says = "`sign`: 'A' to 'D', '2' to '9', '-', '<', '>', '[', '|' or ']'")
    static void everySign() {
        for (char sign : SIGNS.toCharArray()) {
            due("'" + sign + "'", new TurnFace().type(sign), 1);
        }
    }

    @Edge(promise = 27, says = "Throws `IllegalArgumentException` if there is no such sign")
    static void everyOtherSign() {
        TurnFace x = new TurnFace();
        for (char sign = 0; sign < 256; sign++) {
            char tried = sign;
            if (SIGNS.indexOf(sign) < 0) {
                fails("sign " + (int) sign, RANGE, () -> x.type(tried));
            }
        }
        due("typed by them", x.wipe(), 0);
    }

    @Edge(promise = 27, says = "Throws `IllegalArgumentException` if there is no such sign")
    static void signsNextToThose() {
        for (char sign : "@E1:,.;=?Z\\^{}a".toCharArray()) {
            refused("'" + sign + "'", RANGE, () -> worded("A"), x -> x.type(sign));
        }
        refused("the last one", RANGE, () -> worded("A"), x -> x.type((char) 65535));
        refused("A, with a bit above", RANGE, () -> worded("A"), x -> x.type((char) ('A' + 256)));
    }

    @Edge(promise = 27, says = "Signs are typed into a row, at most 30.")
    static void thirtySigns() {
        TurnFace x = new TurnFace();
        for (int i = 1; i <= 30; i++) {
            due("sign " + i, x.type('['), i);
        }
    }

    @Edge(promise = 27, says = "Throws `IllegalStateException` if there are 30")
    static void oneSignMore() {
        refused("the thirty-first", FULL, () -> worded(THIRTY), x -> x.type('C'));
        TurnFace x = worded(THIRTY);
        x.wipe();
        due("after a wipe", x.type('A'), 1);
    }

    @Edge(promise = 27, says = "If several exceptions apply, the one that is documented first is thrown.")
    static void noSignAndFull() {
        refused("no sign, and full", RANGE, () -> worded(THIRTY), x -> x.type('E'));
    }

    // ---- promise 28: wipe

    @Edge(promise = 28, says = "Returns how many there were.")
    static void wipesNoneOneAndThirty() {
        due("none", new TurnFace().wipe(), 0);
        due("one", worded("|").wipe(), 1);
        due("thirty", worded(THIRTY).wipe(), 30);
    }

    @Edge(promise = 28, says = "Wipes the typed signs.")
    static void wipedSignsAreGone() {
        TurnFace x = worded("<<");
        x.wipe();
        due("an empty word", x.isWord(), true);
        due("without turns", x.length('q'), 0);
        due("wiped again", x.wipe(), 0);
    }

    // ---- promise 29: isWord

    @Edge(promise = 29, says = "An empty word is fine, within others, too.")
    static void emptyWords() {
        expectWord("", 0);
        expectWord("<>", 0);
        expectWord("[|]", 0);
        expectTurns("[A|]", "01");
        expectTurns("[|A]", "01");
        expectTurns("A<>B", "02");
        expectTurns("[<>|[|]]A", "0");
        expectWord("<>9-", 0);
        expectWord("[|]2-", 0);
    }

    @Edge(promise = 29, says = "a letter 'A' to 'D' turns that ring once")
    static void letters() {
        expectTurns("A", "0");
        expectTurns("B", "2");
        expectTurns("C", "4");
        expectTurns("D", "6");
    }

    @Edge(promise = 29, says = "A word is some parts, one behind the other")
    static void parts() {
        expectTurns("ABCD", "0246");
        expectTurns("A<B>[C|]D", "02456");
        expectWord(THIRTY, 30);
    }

    @Edge(promise = 29, says = "'<', a word and '>' is that word")
    static void pointedGroups() {
        expectTurns("<A>", "0");
        expectTurns("<<AB>C>", "024");
        for (String row : new String[] {"<", ">", "><", "<A", "A>", "<<A>", "<A>>", "<A]", "[A>", "<|>", "<A|B>"}) {
            expectNoWord(row);
        }
    }

    @Edge(promise = 29, says = "'<', a word and '>' is that word")
    static void fifteenWithinEachOther() {
        expectWord("<<<<<<<<<<<<<<<>>>>>>>>>>>>>>>", 0);
        expectWord("<<<<<<<<<<<<<<A>>>>>>>>>>>>>>2", 2);
        expectNoWord("<<<<<<<<<<<<<<<<>>>>>>>>>>>>>>");
        expectNoWord("<<<<<<<<<<<<<<<<<<<<<<<<<<<<<<");
    }

    @Edge(promise = 29, says = "'[', a word, '|', a word and ']' is the first one, the second one, the first one back and the second one back")
    static void commutators() {
        expectTurns("[A|B]", "0213");
        expectTurns("[AB|C-]", "025314");
        expectTurns("[A|[B|C]]", "02435142" + "53");
        for (String row : new String[] {"[", "]", "|", "[]", "[A]", "[A|", "[A|B", "A|B]", "A|B", "[A||B]", "[A|B|C]", "[A|B>", "<A|B]", "[<A|B>]", "[A<|>B]", "][|", "[|]]"}) {
            expectNoWord(row);
        }
    }

    @Edge(promise = 29, says = "'[', a word, '|', a word and ']' is the first one, the second one, the first one back and the second one back")
    static void tenWithinEachOther() {
        expectWord("[[[[[[[[[[|]|]|]|]|]|]|]|]|]|]", 0);
        expectWord("[[[[[A|B]|]|]|]|]", 64);
        expectNoWord("[[[[[[[[[[|]|]|]|]|]|]|]|]|]|A");
    }

    @Edge(promise = 29, says = "Behind a part can stand a digit, 2 to 9, how often it is done")
    static void digits() {
        for (int times = 2; times <= 9; times++) {
            expectWord("A" + times, times);
            expectWord("<AB>" + times, 2 * times);
            expectWord("[A|B]" + times, 4 * times);
        }
        expectTurns("AB2C", "0224");
        expectTurns("<AB>2C", "02024");
    }

    @Edge(promise = 29, says = "Behind a part can stand a digit")
    static void digitsBehindNoPart() {
        for (String row : new String[] {"2", "9A", "<2>", "[2|]", "[A|2]", "[|2B]", "A22", "A<2>", "A2<3>", "A[2|]", "A|2", "[A|]<2>", "<A>23", "[A2|B]29"}) {
            expectNoWord(row);
        }
    }

    @Edge(promise = 29, says = "and then '-', that it is done back")
    static void signsForBack() {
        expectTurns("A-", "1");
        expectTurns("A2-", "11");
        expectTurns("<A>-", "1");
        expectTurns("<A->-", "0");
        for (String row : new String[] {"-", "-A", "A--", "A2--", "A-2", "A-2-", "<->", "[-|]", "[|-]", "A<->", "A[-|]", "[A|-]", "[A|-B]", "<A>--", "[A|B]-2"}) {
            expectNoWord(row);
        }
    }

    @Edge(promise = 29, says = "Behind a part can stand a digit")
    static void noPartOfARowAhead() {
        for (String row : new String[] {"A", "<A>", "[A|B]2"}) {
            TurnFace x = worded(row);
            due("'" + row + "'", x.isWord(), true);
            typeAll(x, "2");
            due("'2' behind the wiped '" + row + "'", x.isWord(), false);
            typeAll(x, "-");
            due("'-' behind the wiped '" + row + "'", x.isWord(), false);
        }
        TurnFace y = worded("<<[");
        due("'<<['", y.isWord(), false);
        typeAll(y, ">>");
        due("'>>' behind the wiped '<<['", y.isWord(), false);
    }

    @Edge(promise = 29, says = "its turns from the last one on, each back")
    static void fromTheLastOneOn() {
        expectTurns("<AB>-", "31");
        expectTurns("<ABC>-", "531");
        expectTurns("<AB->2-", "2121");
        expectTurns("C<AB>-D", "4316");
        expectTurns("[A|B]-", "2031");
        expectTurns("<>-", "");
    }

    @Edge(promise = 29, says = "Spelled out, it has at most 120 turns")
    static void turnsByLetters() {
        expectWord(TURNS_120, 120);
        expectNoWord(TURNS_120 + "B");
        expectNoWord("B" + TURNS_120);
        expectWord(TURNS_120 + "<>9[|]", 120);
    }

    @Edge(promise = 29, says = "Spelled out, it has at most 120 turns")
    static void turnsByDigits() {
        expectWord("<<A8>5>3", 120);
        expectWord("<<A7>8>2A8", 120);
        expectNoWord("<<A7>8>2A9");
        expectNoWord("<<A9>9>2");
        expectNoWord("<<<<<<<A9>9>9>9>9>9>9>9");
    }

    @Edge(promise = 29, says = "Spelled out, it has at most 120 turns")
    static void turnsByCommutators() {
        expectWord("[<A5>6|<B5>6]", 120);
        expectNoWord("A[<A5>6|<B5>6]");
        expectNoWord("[A<A5>6|<B5>6]");
        expectNoWord("[<A5>6|<B5>6B]");
        expectNoWord("[[[[[[A|B]|]|]|]|]|]");
    }

    @Edge(promise = 29, says = "Spelled out, it has at most 120 turns")
    static void turnsDoneBack() {
        expectWord("<" + TURNS_120 + ">-", 120);
        due("the last one", worded("<" + TURNS_120 + ">-").turnAt(119), 1);
        expectNoWord("<A" + TURNS_120 + ">-");
    }

    @Edge(promise = 29, says = "What is typed stays, but for where it is told.")
    static void signsStay() {
        TurnFace x = worded("<A");
        x.isWord();
        due("of no word", x.type('>'), 3);
        due("made a word", x.isWord(), true);
        due("of a word", x.wipe(), 3);
    }

    // ---- promise 30: length

    @Edge(promise = 30, says = "Throws `IllegalArgumentException` if there is no such count")
    static void lengthWithoutCount() {
        for (char count : "prsuQT".toCharArray()) {
            refused("'" + count + "'", RANGE, () -> worded("AB"), x -> x.length(count));
        }
        refused("the first sign", RANGE, () -> worded("AB"), x -> x.length((char) 0));
    }

    @Edge(promise = 30, says = "Throws `UnsupportedOperationException` if it is no such word")
    static void lengthOfNoWord() {
        refused("q, not shut", REFUSED, () -> worded("<A"), x -> x.length('q'));
        refused("t, not shut", REFUSED, () -> worded("<A"), x -> x.length('t'));
        refused("q, 121 turns", REFUSED, () -> worded(TURNS_120 + "B"), x -> x.length('q'));
        refused("t, 121 turns", REFUSED, () -> worded(TURNS_120 + "B"), x -> x.length('t'));
    }

    @Edge(promise = 30, says = "Returns how many in that count, as they stand.")
    static void noneToAHundredTwenty() {
        String[] rows = {"", "<>", "A", TURNS_120, "<<<AB>5>4>3"};
        int[][] lengths = {{0, 0}, {0, 0}, {1, 1}, {120, 1}, {120, 120}};
        for (int i = 0; i < rows.length; i++) {
            due("'" + rows[i] + "', q", worded(rows[i]).length('q'), lengths[i][0]);
            due("'" + rows[i] + "', t", worded(rows[i]).length('t'), lengths[i][1]);
        }
    }

    @Edge(promise = 30, says = "Returns how many in that count, as they stand.")
    static void againstEachOther() {
        due("AA-, q", worded("AA-").length('q'), 2);
        due("AA-, t", worded("AA-").length('t'), 1);
        due("ABB-A, t", worded("ABB-A").length('t'), 3);
        due("A4, t", worded("A4").length('t'), 1);
    }

    @Edge(promise = 30, says = "in count 't' turns of one ring behind each other, however many, are 1")
    static void behindEachOther() {
        due("AB, t", worded("AB").length('t'), 2);
        due("ABAB, t", worded("<AB>2").length('t'), 4);
        due("A<>A, t", worded("A<>A").length('t'), 1);
        due("<AB><BA>, t", worded("<AB><BA>").length('t'), 3);
        due("CDDC-, t", worded("CDDC-").length('t'), 3);
        due("[A|], t", worded("[A|]").length('t'), 1);
    }

    @Edge(promise = 30, says = "If several exceptions apply, the one that is documented first is thrown.")
    static void noCountAndNoWord() {
        refused("no count, no word", RANGE, () -> worded("<"), x -> x.length('x'));
    }

    // ---- promise 31: turnAt

    @Edge(promise = 31, says = "Throws `UnsupportedOperationException` if it is no such word")
    static void turnOfNoWord() {
        refused("not shut", REFUSED, () -> worded("A<"), x -> x.turnAt(0));
        refused("121 turns", REFUSED, () -> worded(TURNS_120 + "B"), x -> x.turnAt(0));
    }

    @Edge(promise = 31, says = "Throws `NoSuchElementException` if there is no such turn")
    static void firstAndLastTurn() {
        due("0 of two", worded("AB").turnAt(0), 0);
        due("1 of two", worded("AB").turnAt(1), 2);
        refused("-1", MISSING, () -> worded("AB"), x -> x.turnAt(-1));
        refused("2 of two", MISSING, () -> worded("AB"), x -> x.turnAt(2));
        refused("0 of none", MISSING, () -> worded(""), x -> x.turnAt(0));
        refused("the least", MISSING, () -> worded("AB"), x -> x.turnAt(LEAST));
        refused("the greatest", MISSING, () -> worded("AB"), x -> x.turnAt(MOST));
    }

    @Edge(promise = 31, says = "Throws `NoSuchElementException` if there is no such turn")
    static void lastOf120() {
        due("119 of 120", worded("<<<AB>5>4>3").turnAt(119), 2);
        refused("120 of 120", MISSING, () -> worded("<<<AB>5>4>3"), x -> x.turnAt(120));
    }

    @Edge(promise = 31, says = "Throws `NoSuchElementException` if there is no such turn")
    static void noTurnOfAWordAhead() {
        TurnFace x = worded("ABCD");
        x.turnAt(3);
        typeAll(x, "AB");
        fails("the third, of the word ahead", MISSING, () -> x.turnAt(2));
    }

    @Edge(promise = 31, says = "Returns 2 times the number of the ring, from 0, and 1 more for back.")
    static void ringsAndBack() {
        expectTurns("ABCD", "0246");
        expectTurns("A-B-C-D-", "1357");
    }

    @Edge(promise = 31, says = "If several exceptions apply, the one that is documented first is thrown.")
    static void noWordAndNoTurn() {
        refused("no word, -1", REFUSED, () -> worded("<"), x -> x.turnAt(-1));
        refused("no word, 120", REFUSED, () -> worded(TURNS_120 + "B"), x -> x.turnAt(120));
    }

    // ---- promise 32: apply

    @Edge(promise = 32, says = "Throws `IndexOutOfBoundsException` if there is no such puzzle")
    static void applyWithoutPuzzle() {
        refused("none", INDEX, TurnFace::new, x -> x.apply(0));
        refused("1 of one", INDEX, () -> worded("A"), x -> x.apply(1));
        refused("-1", INDEX, () -> worded("A"), x -> x.apply(-1));
    }

    @Edge(promise = 32, says = "Throws `UnsupportedOperationException` if it is no such word, or has a ring that the puzzle has not")
    static void applyNoWord() {
        refused("not shut", REFUSED, () -> worded("A<"), x -> x.apply(0));
        refused("121 turns", REFUSED, () -> worded("B" + TURNS_120), x -> x.apply(0));
        due("120 turns", worded(TURNS_120).apply(0), true);
    }

    @Edge(promise = 32, says = "or has a ring that the puzzle has not")
    static void lastRingAndTheOneBehind() {
        due("B of two", worded("B").apply(0), false);
        refused("C of two", REFUSED, () -> worded("C"), x -> x.apply(0));
        refused("C of two, behind others", REFUSED, () -> worded("ABC"), x -> x.apply(0));
        refused("C of two, ahead of others", REFUSED, () -> worded("CAB"), x -> x.apply(0));
        refused("D of two, undone by itself", REFUSED, () -> worded("[D|]"), x -> x.apply(0));
        TurnFace x = fourRings();
        typeAll(x, "D");
        due("D of four", x.apply(0), false);
        TurnFace y = bare(3);
        typeAll(y, "A");
        fails("A of none", REFUSED, () -> y.apply(0));
    }

    @Edge(promise = 32, says = "An empty word is fine")
    static void applyNothing() {
        TurnFace x = bare(3);
        due("without a ring", x.apply(0), true);
        x.swap(0, 0, 1);
        due("without a ring, not solved", x.apply(0), false);
        due("nothing done", pieces(x, 0, 3), "102");
    }

    @Edge(promise = 32, says = "Returns whether it is solved then.")
    static void solvedThen() {
        TurnFace x = worded("A");
        due("once", x.apply(0), false);
        due("once", pieces(x, 0, 4), "2013");
        due("twice", x.apply(0), false);
        due("thrice", x.apply(0), true);
        x.colour(0, 3, 2);
        typeAll(x, "B");
        due("by colours", x.apply(0), true);
        due("by colours", pieces(x, 0, 4), "0132");
    }

    @Edge(promise = 32, says = "What is typed stays, but for where it is told.")
    static void signsStayWhenDone() {
        TurnFace x = worded("AB");
        x.apply(0);
        due("the length", x.length('q'), 2);
        due("the second turn", x.turnAt(1), 2);
        due("the signs", x.wipe(), 2);
    }

    @Edge(promise = 32, says = "If several exceptions apply, the one that is documented first is thrown.")
    static void noPuzzleAndNoWord() {
        refused("no puzzle, no word", INDEX, () -> worded("<"), x -> x.apply(1));
        refused("no puzzle, no ring", INDEX, () -> worded("D"), x -> x.apply(-1));
    }
}
