/** The limits of promises 1, 13, 14 and 19 to 22, and of an object's 512 calls. */
public final class EdgesOfOfficesTest {
    public static void main(String[] args) throws IllegalAccessException {
        Edge.all(EdgesOfOfficesTest.class);
    }

    /** "All offices are there": each can begin a draft, and none can come back. */
    static void allOfficesOfANewObject() {
        TripleHouse x = new TripleHouse();
        for (int o = 0; o < 27; o++) {
            Due.no("restart(" + o + ")", x.restart(o));
            Due.is("draft(" + o + ", 0)", x.draft(o, 0), o);
        }
    }

    static void noPromisesOfANewObject() {
        TripleHouse x = new TripleHouse();
        for (int o = 0; o < 27; o++) {
            Due.is("promised(" + o + ")", x.promised(o), 0);
            Due.is("complete(" + o + ")", x.complete(o), 0);
        }
    }

    static void noDraftsOfANewObject() {
        TripleHouse x = new TripleHouse();
        for (int o = 0; o < 27; o++) {
            Due.no("line(" + o + ", 0, 0)", x.line(o, 0, 0));
        }
        Due.is("the first draft", x.draft(0, 0), 0);
    }

    /** What one object does is nothing to another one. */
    static void newObjectBesideABusyOne() {
        TripleHouse busy = Edge.after(States::full);
        TripleHouse x = new TripleHouse();
        Due.is("letters()", x.letters(), 0);
        Due.is("promised(26)", x.promised(26), 0);
        Due.no("restart(20)", x.restart(20));
        Due.is("draft(2, 0)", x.draft(2, 0), 0);
        Due.is("the busy one", busy.letters(), 150);
    }

    static void crashOfNoOfficeBelow() {
        Edge.refusedEverywhere(x -> Edge.num(x.crash(-1)), Edge.REFUSED);
        Edge.refusedEverywhere(x -> Edge.num(x.crash(Integer.MIN_VALUE)), Edge.REFUSED);
    }

    static void crashOfNoOfficeAbove() {
        Edge.refusedEverywhere(x -> Edge.num(x.crash(27)), Edge.REFUSED);
        Edge.refusedEverywhere(x -> Edge.num(x.crash(Integer.MAX_VALUE)), Edge.REFUSED);
    }

    static void crashOfAFailedOffice() {
        Edge.refused(States::busy, x -> Edge.num(x.crash(20)), Edge.REFUSED);
    }

    static void crashOfTheFirstAndTheLastOffice() {
        TripleHouse x = new TripleHouse();
        Due.yes("crash(0)", x.crash(0));
        Due.yes("crash(26)", x.crash(26));
        Due.is("0 has failed", x.draft(0, 0), -1);
        Due.is("26 has failed", x.draft(26, 0), -1);
        Due.is("1 has not", x.draft(1, 0), 0);
    }

    static void crashOfAll() {
        TripleHouse x = Edge.after(States::asking);
        for (int o = 0; o < 27; o++) {
            Due.yes("crash(" + o + ")", x.crash(o));
        }
        for (int k = 8; k > 0; k--) {
            Due.is("letters", x.letters(), k);
            Due.is("a letter to a failed office", x.deliver(0), 0);
        }
        for (int o = 0; o < 27; o++) {
            Due.yes("restart(" + o + ")", x.restart(o));
            Due.is("promised(" + o + ")", x.promised(o), o == 0 ? 27 : 0);
        }
    }

    static void crashLeavesTheLetters() {
        TripleHouse x = Edge.after(States::full);
        x.crash(26);
        x.crash(0);
        Due.is("letters", x.letters(), 150);
    }

    /** The run is gone, and what it settled, and who was silent in it. */
    static void crashOfASettlingOffice() {
        TripleHouse x = Edge.after(States::busy);
        Due.yes("crash(26)", x.crash(26));
        Due.is("phase", x.run(26, 0), 0);
        x.restart(26);
        Due.is("no run comes back", x.run(26, 0), 0);
        Due.is("a TAKEN for it", x.deliver(19), 0);
        Steps.start(x, 26, 0, 0, 0);
        Due.is("24 is not silent", x.asked(26, true), Steps.set(26, 24, 20, 18, 8, 6, 2, 0));
    }

    static void crashKeepsWhatAnOfficeKeeps() {
        TripleHouse x = Edge.after(States::busy);
        x.crash(8);
        x.crash(4);
        Due.is("promised(8)", x.promised(8), 53);
        Due.is("accepted(8, 0)", x.accepted(8, 0), 31);
        Due.is("decided(4, 0)", x.decided(4, 0), 0);
        Due.is("complete(4)", x.complete(4), 1);
        x.restart(8);
        x.restart(4);
        Due.is("promised(8)", x.promised(8), 53);
        Due.is("accepted(8, 0)", x.accepted(8, 0), 31);
        Due.is("decided(4, 0)", x.decided(4, 0), 0);
        Due.is("complete(4)", x.complete(4), 1);
    }

    /** The draft that was accepted is kept as well as its ballot: a later GIVE brings it. */
    static void crashKeepsTheAcceptedDraft() {
        TripleHouse x = Edge.after(States::settling);
        Steps.deliverFirst(x, 8);
        Steps.loseAll(x);
        for (int o = 0; o < 27; o++) {
            x.crash(o);
            x.restart(o);
        }
        Steps.start(x, 0, 0, 0, 0);
        Steps.deliverFirst(x, 16);
        Due.is("what 0 settles", x.letter(0, 5), 0);
    }

    static void restartOfNoOfficeBelow() {
        Edge.refusedEverywhere(x -> Edge.num(x.restart(-1)), Edge.REFUSED);
        Edge.refusedEverywhere(x -> Edge.num(x.restart(Integer.MIN_VALUE)), Edge.REFUSED);
    }

    static void restartOfNoOfficeAbove() {
        Edge.refusedEverywhere(x -> Edge.num(x.restart(27)), Edge.REFUSED);
        Edge.refusedEverywhere(x -> Edge.num(x.restart(Integer.MAX_VALUE)), Edge.REFUSED);
    }

    static void restartOfAnOfficeThatIsThere() {
        Edge.refusedEverywhere(x -> Edge.num(x.restart(13)), Edge.REFUSED);
        Edge.refused(States::busy, x -> Edge.num(x.restart(0)), Edge.REFUSED);
        Edge.refused(States::busy, x -> Edge.num(x.restart(26)), Edge.REFUSED);
    }

    static void restartTwice() {
        Edge.Calls back = x -> {
            States.busy(x);
            x.restart(20);
        };
        Edge.refused(back, x -> Edge.num(x.restart(20)), Edge.REFUSED);
    }

    static void restartOfTheFirstAndTheLastOffice() {
        TripleHouse x = new TripleHouse();
        x.crash(0);
        x.crash(26);
        Due.yes("restart(0)", x.restart(0));
        Due.yes("restart(26)", x.restart(26));
        Due.is("0 is back", x.draft(0, 0), 0);
        Due.is("26 is back", x.draft(26, 0), 1);
    }

    static void promisedOfNoOffice() {
        TripleHouse x = Edge.after(States::busy);
        Due.is("promised(-1)", x.promised(-1), -1);
        Due.is("promised(27)", x.promised(27), -1);
    }

    static void promisedOfTheFirstAndTheLastOffice() {
        TripleHouse x = Edge.after(States::busy);
        Due.is("promised(0)", x.promised(0), 53);
        Due.is("promised(26)", x.promised(26), 53);
    }

    static void promisedOfOneThatPromisedNothing() {
        TripleHouse x = Edge.after(States::busy);
        Due.is("promised(11)", x.promised(11), 0);
    }

    static void acceptedOfNoOffice() {
        TripleHouse x = Edge.after(States::busy);
        Due.is("accepted(-1, 0)", x.accepted(-1, 0), -1);
        Due.is("accepted(27, 0)", x.accepted(27, 0), -1);
    }

    static void acceptedOfNoNumber() {
        TripleHouse x = Edge.after(States::busy);
        Due.is("accepted(4, -1)", x.accepted(4, -1), -1);
        Due.is("accepted(4, 6)", x.accepted(4, 6), -1);
        Due.is("accepted(4, MAX)", x.accepted(4, Integer.MAX_VALUE), -1);
        Due.is("accepted(4, MIN)", x.accepted(4, Integer.MIN_VALUE), -1);
    }

    static void acceptedForTheFirstAndTheLastNumber() {
        TripleHouse x = Edge.after(y -> States.knowing(y, 6));
        Due.is("accepted(4, 0)", x.accepted(4, 0), 27 + 4);
        Due.is("accepted(4, 5)", x.accepted(4, 5), 6 * 27 + 4);
    }

    static void acceptedOfOneThatAcceptedNothing() {
        TripleHouse x = Edge.after(States::busy);
        Due.is("accepted(11, 0)", x.accepted(11, 0), 0);
        Due.is("accepted(4, 1)", x.accepted(4, 1), 0);
        Due.is("accepted(4, 5)", x.accepted(4, 5), 0);
    }

    static void decidedOfNoOffice() {
        TripleHouse x = Edge.after(States::busy);
        Due.is("decided(-1, 0)", x.decided(-1, 0), -1);
        Due.is("decided(27, 0)", x.decided(27, 0), -1);
    }

    static void decidedOfNoNumber() {
        TripleHouse x = Edge.after(States::busy);
        Due.is("decided(4, -1)", x.decided(4, -1), -1);
        Due.is("decided(4, 6)", x.decided(4, 6), -1);
        Due.is("decided(4, MAX)", x.decided(4, Integer.MAX_VALUE), -1);
        Due.is("decided(4, MIN)", x.decided(4, Integer.MIN_VALUE), -1);
    }

    static void decidedForTheFirstAndTheLastNumber() {
        TripleHouse x = Edge.after(y -> States.knowing(y, 6));
        Due.is("decided(4, 0)", x.decided(4, 0), 0);
        Due.is("decided(4, 5)", x.decided(4, 5), 5);
    }

    /** Number 0 may be decided, and draft 0, while an office does not know of it. */
    static void decidedOfOneThatKnowsNothing() {
        TripleHouse x = Edge.after(States::busy);
        Due.is("decided(5, 0)", x.decided(5, 0), -1);
        Due.is("decided(4, 1)", x.decided(4, 1), -1);
    }

    static void completeOfNoOffice() {
        TripleHouse x = Edge.after(States::busy);
        Due.is("complete(-1)", x.complete(-1), -1);
        Due.is("complete(27)", x.complete(27), -1);
    }

    static void completeOfOneThatKnowsNothing() {
        TripleHouse x = Edge.after(States::busy);
        Due.is("complete(0)", x.complete(0), 0);
        Due.is("complete(26)", x.complete(26), 0);
    }

    static void completeOfAll() {
        TripleHouse x = Edge.after(y -> States.knowing(y, 6));
        Due.is("complete(4)", x.complete(4), 6);
    }

    /** "without a gap": numbers 1 and 2 count as soon as number 0 is known. */
    static void completeWithAGap() {
        TripleHouse x = Edge.after(y -> States.knowing(y, 3));
        x.spread(4);
        x.deliver(12);
        Due.is("number 2 alone", x.complete(1), 0);
        x.deliver(0);
        Due.is("numbers 0 and 2", x.complete(1), 1);
        x.deliver(5);
        Due.is("numbers 0, 1 and 2", x.complete(1), 3);
    }

    /** "An object is used for at most 512 calls": the last ones are as good as the first. */
    static void fiveHundredAndTwelveCalls() {
        TripleHouse x = new TripleHouse();
        for (int n = 0; n < 6; n++) {
            Steps.settle(x, 4, n, n, n);
        }
        int calls = 6 * 36;
        while (calls < 510) {
            Due.yes("crash(4)", x.crash(4));
            Due.yes("restart(4)", x.restart(4));
            calls += 2;
        }
        Due.is("call 511", x.rate(4, 5, 999, 6), 5);
        Due.is("call 512", x.spread(4), 36);
    }

    /** Each of the forty drafts brings a round, while the row is full already. */
    static void fortyRoundsOfTheLastOffice() {
        TripleHouse x = new TripleHouse();
        int rounds = 40;
        for (int k = 1; k < rounds; k++) {
            Steps.start(x, 26, 0, 0, 0);
            x.crash(26);
            x.restart(26);
        }
        Steps.start(x, 26, 0, 0, 0);
        Due.is("ballot", x.run(26, 2), 27 * rounds + 26);
        Due.is("promised", x.promised(26), 27 * rounds + 26);
        Due.is("letters", x.letters(), 150);
    }
}
