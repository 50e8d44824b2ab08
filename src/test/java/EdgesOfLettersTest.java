/** The limits of the row of letters: promises 8, 9, 11 and 12, and which letters deliver takes. */
public final class EdgesOfLettersTest {
    private static final int[] NO_LETTER_BELOW = {-1, Integer.MIN_VALUE};

    public static void main(String[] args) throws IllegalAccessException {
        Edge.all(EdgesOfLettersTest.class);
    }

    static void lettersOfANewObject() {
        Due.is("letters()", new TripleHouse().letters(), 0);
    }

    static void lettersOfAFullRow() {
        Due.is("letters()", Edge.after(States::full).letters(), 150);
    }

    static void lettersWhenTheLastOneIsTaken() {
        TripleHouse x = Edge.after(States::asking);
        for (int left = 7; left >= 0; left--) {
            x.lose(0);
            Due.is("letters()", x.letters(), left);
        }
    }

    static void letterBelowTheFirst() {
        for (int i : NO_LETTER_BELOW) {
            Edge.refusedEverywhere(x -> x.letter(i, 0), Edge.BOUNDS);
        }
    }

    static void letterBehindTheLast() {
        Edge.refused(States::busy, x -> x.letter(21, 0), Edge.BOUNDS);
        Edge.refused(States::full, x -> x.letter(150, 0), Edge.BOUNDS);
        Edge.refusedEverywhere(x -> x.letter(Integer.MAX_VALUE, 0), Edge.BOUNDS);
    }

    static void letterOfAnEmptyRow() {
        Edge.refused(States::fresh, x -> x.letter(0, 0), Edge.BOUNDS);
    }

    /** A place in the row where a letter was before holds none. */
    static void letterOfARowThatIsEmptyAgain() {
        Edge.Calls emptied = x -> {
            States.asking(x);
            Steps.loseAll(x);
        };
        Edge.refused(emptied, x -> x.letter(0, 0), Edge.BOUNDS);
    }

    static void firstAndLastLetter() {
        TripleHouse x = Edge.after(States::asking);
        Due.is("to", x.letter(0, 2), 0);
        Due.is("to", x.letter(7, 2), 13);
        Steps.fillTo(x, 150);
        Due.is("to", x.letter(149, 2), 0);
    }

    static void letterOfNoWhatBelow() {
        Edge.refusedEverywhere(x -> x.letter(0, -1), Edge.BOUNDS);
        Edge.refusedEverywhere(x -> x.letter(0, Integer.MIN_VALUE), Edge.BOUNDS);
    }

    static void letterOfNoWhatAbove() {
        Edge.refusedEverywhere(x -> x.letter(0, 6), Edge.BOUNDS);
        Edge.refusedEverywhere(x -> x.letter(0, Integer.MAX_VALUE), Edge.BOUNDS);
    }

    private static void parts(int i, int... parts) {
        TripleHouse x = Edge.after(States::busy);
        for (int what = 0; what < 6; what++) {
            Due.is("letter(" + i + ", " + what + ")", x.letter(i, what), parts[what]);
        }
    }

    static void askHasNoDraft() {
        parts(6, 0, 0, 3, 27, 0, -1);
    }

    /** "otherwise NONE": what a GIVE brings is not told. */
    static void giveHasNoDraft() {
        parts(11, 1, 1, 0, 27, 0, -1);
    }

    static void giveThatBringsADraftHasNone() {
        TripleHouse x = Edge.after(States::settling);
        Steps.deliverFirst(x, 8);
        Steps.loseAll(x);
        x.crash(0);
        x.restart(0);
        Steps.start(x, 0, 0, 0, 0);
        x.deliver(0);
        Due.is("a GIVE", x.letter(7, 0), 1);
        Due.is("its draft", x.letter(7, 5), -1);
    }

    static void noHasNoNumber() {
        parts(12, 2, 4, 0, 27, -1, 31);
    }

    static void settleHasAllParts() {
        parts(13, 3, 26, 6, 53, 0, 0);
    }

    static void takenHasNoDraft() {
        parts(19, 4, 2, 26, 53, 0, -1);
    }

    static void tellHasNoBallot() {
        parts(5, 5, 4, 22, 0, 0, 0);
    }

    /** Number 5 and draft 39 are the greatest ones that a letter tells. */
    static void lettersOfTheLastNumberAndDraft() {
        TripleHouse x = Edge.after(y -> States.knowing(y, 5));
        for (int k = 5; k < 40; k++) {
            x.draft(4, 0);
        }
        x.line(4, 0, 0);
        x.propose(4);
        Due.is("ASK for number", x.letter(0, 4), 5);
        Steps.deliverFirst(x, 16);
        Due.is("SETTLE for number", x.letter(0, 4), 5);
        Due.is("SETTLE of draft", x.letter(0, 5), 39);
        Steps.deliverFirst(x, 16);
        x.spread(4);
        Due.is("TELL of number", x.letter(35, 4), 5);
        Due.is("TELL of draft", x.letter(35, 5), 39);
    }

    static void deliverBelowTheFirst() {
        for (int i : NO_LETTER_BELOW) {
            Edge.refusedEverywhere(x -> x.deliver(i), Edge.BOUNDS);
        }
    }

    static void deliverBehindTheLast() {
        Edge.refused(States::busy, x -> x.deliver(21), Edge.BOUNDS);
        Edge.refused(States::full, x -> x.deliver(150), Edge.BOUNDS);
        Edge.refusedEverywhere(x -> x.deliver(Integer.MAX_VALUE), Edge.BOUNDS);
    }

    static void deliverFromAnEmptyRow() {
        Edge.refused(States::fresh, x -> x.deliver(0), Edge.BOUNDS);
    }

    static void deliverFromARowThatIsEmptyAgain() {
        Edge.Calls emptied = x -> Steps.settle(x, 4, 0, 0, 0);
        Edge.refused(emptied, x -> x.deliver(0), Edge.BOUNDS);
    }

    static void deliverTheFirst() {
        TripleHouse x = Edge.after(States::asking);
        Due.is("deliver(0)", x.deliver(0), 1);
        Due.is("0 promised", x.promised(0), 27);
        Due.is("the second one is the first", x.letter(0, 2), 1);
        Due.is("the answer is the last", x.letter(7, 0), 1);
    }

    static void deliverTheLast() {
        TripleHouse x = Edge.after(States::asking);
        Due.is("deliver(7)", x.deliver(7), 1);
        Due.is("13 promised", x.promised(13), 27);
        Due.is("the answer has its place", x.letter(7, 0), 1);
        Due.is("letters", x.letters(), 8);
    }

    static void deliverTheLastOfAFullRow() {
        TripleHouse x = Edge.after(States::asking);
        Steps.fillTo(x, 150);
        Due.is("deliver(149)", x.deliver(149), 1);
        Due.is("letters", x.letters(), 150);
        Due.is("the answer has its place", x.letter(149, 0), 1);
    }

    /** A letter that is delivered leaves its place: of the eight SETTLEs one is kept. */
    static void deliverWhenTheRowIsFull() {
        TripleHouse x = Edge.after(States::asking);
        Steps.deliverFirst(x, 15);
        Steps.fillTo(x, 150);
        Due.is("eight are sent", x.deliver(149), 8);
        Due.is("letters", x.letters(), 150);
        Due.is("a SETTLE", x.letter(149, 0), 3);
        Due.is("to 0", x.letter(149, 2), 0);
        Due.is("resend makes good what was lost", x.resend(0), 8);
    }

    static void deliverWhenAllLettersJustFit() {
        TripleHouse x = Edge.after(States::asking);
        Steps.deliverFirst(x, 15);
        Steps.fillTo(x, 143);
        Due.is("eight are sent", x.deliver(0), 8);
        Due.is("letters", x.letters(), 150);
        Due.is("to 13", x.letter(149, 2), 13);
    }

    static void loseBelowTheFirst() {
        for (int i : NO_LETTER_BELOW) {
            Edge.refusedEverywhere(x -> Edge.num(x.lose(i)), Edge.REFUSED);
        }
    }

    static void loseBehindTheLast() {
        Edge.refused(States::busy, x -> Edge.num(x.lose(21)), Edge.REFUSED);
        Edge.refused(States::full, x -> Edge.num(x.lose(150)), Edge.REFUSED);
        Edge.refusedEverywhere(x -> Edge.num(x.lose(Integer.MAX_VALUE)), Edge.REFUSED);
    }

    static void loseFromAnEmptyRow() {
        Edge.refused(States::fresh, x -> Edge.num(x.lose(0)), Edge.REFUSED);
    }

    static void loseTheFirst() {
        TripleHouse x = Edge.after(States::asking);
        Due.yes("lose(0)", x.lose(0));
        Due.is("letters", x.letters(), 7);
        Due.is("the second one is the first", x.letter(0, 2), 1);
        Due.is("nobody heard of it", x.promised(1), 0);
    }

    static void loseTheLast() {
        TripleHouse x = Edge.after(States::asking);
        Due.yes("lose(7)", x.lose(7));
        Due.is("letters", x.letters(), 7);
        Due.is("the others stay", x.letter(6, 2), 12);
        Due.no("once only", x.lose(7));
        Due.is("nobody heard of it", x.promised(13), 0);
    }

    static void loseOneOfAFullRow() {
        TripleHouse x = Edge.after(States::full);
        Due.yes("lose(149)", x.lose(149));
        Due.is("letters", x.letters(), 149);
        Due.yes("there is room for one", x.twin(0));
        Due.no("not for two", x.twin(0));
    }

    static void loseTheOnlyOne() {
        TripleHouse x = Edge.after(States::asking);
        Steps.deliverFirst(x, 15);
        Due.yes("lose(0)", x.lose(0));
        Due.is("letters", x.letters(), 0);
        Due.no("no more", x.lose(0));
    }

    static void twinBelowTheFirst() {
        for (int i : NO_LETTER_BELOW) {
            Edge.refusedEverywhere(x -> Edge.num(x.twin(i)), Edge.REFUSED);
        }
    }

    static void twinBehindTheLast() {
        Edge.refused(States::busy, x -> Edge.num(x.twin(21)), Edge.REFUSED);
        Edge.refused(States::full, x -> Edge.num(x.twin(150)), Edge.REFUSED);
        Edge.refusedEverywhere(x -> Edge.num(x.twin(Integer.MAX_VALUE)), Edge.REFUSED);
    }

    static void twinFromAnEmptyRow() {
        Edge.refused(States::fresh, x -> Edge.num(x.twin(0)), Edge.REFUSED);
    }

    static void twinOfTheFirstAndTheLast() {
        TripleHouse x = Edge.after(States::busy);
        Due.yes("twin(0)", x.twin(0));
        Due.yes("twin(20)", x.twin(20));
        for (int what = 0; what < 6; what++) {
            Due.is("part " + what, x.letter(21, what), x.letter(0, what));
            Due.is("part " + what, x.letter(22, what), x.letter(20, what));
        }
        Due.is("letters", x.letters(), 23);
    }

    static void twinUpTo150() {
        TripleHouse x = Edge.after(States::busy);
        Steps.fillTo(x, 149);
        Due.yes("the 150th", x.twin(12));
        Due.is("letters", x.letters(), 150);
        Due.is("it is the last", x.letter(149, 0), 2);
    }

    static void twinWhen150Wait() {
        Edge.refused(States::full, x -> Edge.num(x.twin(0)), Edge.REFUSED);
        Edge.refused(States::full, x -> Edge.num(x.twin(149)), Edge.REFUSED);
    }

    /** The same letter: both are there, and one can be lost without the other. */
    static void twinOutlivesItsLetter() {
        TripleHouse x = Edge.after(States::asking);
        x.twin(7);
        x.lose(7);
        Due.is("to 13", x.letter(7, 2), 13);
        Due.is("it is delivered", x.deliver(7), 1);
        Due.is("13 promised", x.promised(13), 27);
    }

    /** A GIVE brings what was accepted, and so does its twin when the GIVE itself is lost. */
    static void twinOfAGiveThatBringsADraft() {
        TripleHouse x = Edge.after(States::settling);
        Steps.deliverFirst(x, 8);
        Steps.loseAll(x);
        Steps.start(x, 1, 0, 0, 0);
        Steps.deliverFirst(x, 8);
        for (int k = 0; k < 8; k++) {
            x.twin(0);
            x.lose(0);
        }
        Steps.deliverFirst(x, 8);
        Due.is("the draft that was brought", x.letter(0, 5), 0);
    }
}
