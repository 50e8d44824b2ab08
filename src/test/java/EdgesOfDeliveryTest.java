/** The limits of what a letter does when it is delivered (promise 10). */
public final class EdgesOfDeliveryTest {
    private static final int EIGHT = Steps.set(0, 1, 3, 4, 9, 10, 12, 13);

    public static void main(String[] args) throws IllegalAccessException {
        Edge.all(EdgesOfDeliveryTest.class);
    }

    /** Delivering a letter of a state is as good as losing it, and sends nothing. */
    private static void doesNothing(Edge.Calls state, int i) {
        Due.is("deliver(" + i + ")", Edge.after(state).deliver(i), 0);
        Edge.same(state, x -> x.deliver(i), x -> x.lose(i));
    }

    /** "If the office to which it goes has failed, that is all": it is only taken out. */
    private static void toAFailedOffice(int i, int kind, int to) {
        TripleHouse x = Edge.after(States::busy);
        Due.is("kind", x.letter(i, 0), kind);
        Due.is("to", x.letter(i, 2), to);
        doesNothing(y -> {
            States.busy(y);
            y.crash(to);
        }, i);
    }

    static void askToAFailedOffice() {
        toAFailedOffice(6, 0, 3);
    }

    static void giveToAFailedOffice() {
        toAFailedOffice(11, 1, 0);
    }

    static void noToAFailedOffice() {
        toAFailedOffice(12, 2, 0);
    }

    static void settleToAFailedOffice() {
        toAFailedOffice(13, 3, 6);
    }

    static void takenToAFailedOffice() {
        toAFailedOffice(19, 4, 26);
    }

    static void tellToAFailedOffice() {
        toAFailedOffice(0, 5, 1);
    }

    static void askToAnOfficeThatIsBack() {
        TripleHouse x = Edge.after(States::asking);
        x.crash(13);
        x.restart(13);
        Due.is("deliver(7)", x.deliver(7), 1);
        Due.is("13 promised", x.promised(13), 27);
    }

    /** Its sender having failed, a letter still does what it does. */
    static void askFromAFailedOffice() {
        TripleHouse x = Edge.after(States::asking);
        x.crash(0);
        Due.is("deliver(7)", x.deliver(7), 1);
        Due.is("13 promised", x.promised(13), 27);
        Due.is("a GIVE goes back", x.letter(7, 0), 1);
    }

    /** Runs of 0 and 1, whose ballots 27 and 28 differ by one; both ask 4. */
    private static TripleHouse ballots27And28(int first, int second) {
        TripleHouse x = Edge.after(States::asking);
        Steps.start(x, 1, 0, 0, 0);
        Due.is("of 0 to 4", x.letter(3, 2), 4);
        Due.is("of 1 to 4", x.letter(10, 2), 4);
        Due.is("the first ASK", x.deliver(first), 1);
        Due.is("the second ASK", x.deliver(second), 1);
        return x;
    }

    static void askJustAboveWhatWasPromised() {
        TripleHouse x = ballots27And28(3, 9);
        Due.is("promised", x.promised(4), 28);
        Due.is("a GIVE", x.letter(15, 0), 1);
        Due.is("to 1", x.letter(15, 2), 1);
    }

    static void askJustBelowWhatWasPromised() {
        TripleHouse x = ballots27And28(10, 3);
        Due.is("promised", x.promised(4), 28);
        Due.is("a NO", x.letter(15, 0), 2);
        Due.is("to 0", x.letter(15, 2), 0);
        Due.is("for ballot", x.letter(15, 3), 27);
        Due.is("what was promised", x.letter(15, 5), 28);
    }

    /** "at least": the same ballot once more is given to once more. */
    static void askOfWhatWasPromised() {
        TripleHouse x = Edge.after(States::asking);
        x.twin(7);
        x.deliver(7);
        Due.is("promised", x.promised(13), 27);
        Due.is("deliver(7)", x.deliver(7), 1);
        Due.is("a second GIVE", x.letter(8, 0), 1);
        Due.is("promised", x.promised(13), 27);
    }

    /** An office that asks itself has promised that ballot already. */
    static void askToTheOfficeItself() {
        TripleHouse x = Edge.after(States::asking);
        Due.is("promised", x.promised(0), 27);
        Due.is("deliver(0)", x.deliver(0), 1);
        Due.is("a GIVE", x.letter(7, 0), 1);
        Due.is("from 0", x.letter(7, 1), 0);
        Due.is("to 0", x.letter(7, 2), 0);
    }

    static void settleOfWhatWasPromised() {
        TripleHouse x = Edge.after(States::settling);
        Due.is("promised", x.promised(13), 27);
        Due.is("deliver(7)", x.deliver(7), 1);
        Due.is("a TAKEN", x.letter(7, 0), 4);
        Due.is("accepted", x.accepted(13, 0), 27);
    }

    static void settleTwice() {
        TripleHouse x = Edge.after(States::settling);
        x.twin(7);
        x.deliver(7);
        Due.is("deliver(7)", x.deliver(7), 1);
        Due.is("a second TAKEN", x.letter(8, 0), 4);
        Due.is("accepted", x.accepted(13, 0), 27);
    }

    /** 1 asks 13 with ballot 55 before 0's SETTLE of ballot 27 comes there. */
    static void settleBelowWhatWasPromised() {
        TripleHouse x = Edge.after(States::settling);
        Steps.start(x, 1, 0, 0, 0);
        Due.is("to 13", x.letter(14, 2), 13);
        x.deliver(14);
        Due.is("promised", x.promised(13), 55);
        Due.is("deliver(7)", x.deliver(7), 1);
        Due.is("a NO", x.letter(15, 0), 2);
        Due.is("for ballot", x.letter(15, 3), 27);
        Due.is("what was promised", x.letter(15, 5), 55);
        Due.is("promised", x.promised(13), 55);
        Due.is("not accepted", x.accepted(13, 0), 0);
    }

    static void settleAboveWhatWasPromised() {
        TripleHouse x = Edge.after(States::settling);
        x.silent(0, 13);
        Due.is("to 14", x.letter(8, 2), 14);
        Due.is("14 promised nothing", x.promised(14), 0);
        Due.is("deliver(8)", x.deliver(8), 1);
        Due.is("promised", x.promised(14), 27);
        Due.is("accepted", x.accepted(14, 0), 27);
        Due.is("a TAKEN", x.letter(8, 0), 4);
    }

    /** A NO takes nothing back of what was accepted before. */
    static void settleAtALowerBallotThanAccepted() {
        TripleHouse x = Edge.after(States::settling);
        x.twin(0);
        x.crash(0);
        x.restart(0);
        Steps.start(x, 0, 0, 0, 0);
        for (int k = 0; k < 16; k++) {
            x.deliver(9);
        }
        Due.is("a SETTLE of the second run", x.letter(9, 3), 54);
        x.deliver(9);
        Due.is("accepted", x.accepted(0, 0), 54);
        Due.is("a SETTLE of the first run", x.deliver(8), 1);
        Due.is("accepted", x.accepted(0, 0), 54);
    }

    private static TripleHouse withAnswers(Edge.Calls state, int count) {
        TripleHouse x = Edge.after(state);
        Steps.deliverFirst(x, 8 + count);
        return x;
    }

    static void seventhGive() {
        TripleHouse x = withAnswers(States::asking, 6);
        Due.is("deliver(0)", x.deliver(0), 0);
        Due.is("asking", x.run(0, 0), 1);
        Due.is("answered", x.asked(0, false), EIGHT & ~(1 << 13));
    }

    static void eighthGive() {
        TripleHouse x = withAnswers(States::asking, 7);
        Due.is("deliver(0)", x.deliver(0), 8);
        Due.is("settling", x.run(0, 0), 2);
        Due.is("nobody has answered", x.asked(0, false), 0);
    }

    static void seventhTaken() {
        TripleHouse x = withAnswers(States::settling, 6);
        Due.is("deliver(0)", x.deliver(0), 0);
        Due.is("settling", x.run(0, 0), 2);
        Due.is("answered", x.asked(0, false), EIGHT & ~(1 << 13));
        Due.is("not decided", x.decided(0, 0), -1);
    }

    static void eighthTaken() {
        TripleHouse x = withAnswers(States::settling, 7);
        Due.is("deliver(0)", x.deliver(0), 0);
        Due.is("decided", x.decided(0, 0), 0);
        Due.is("ended", x.run(0, 0), 0);
    }

    /**
     * 12 and 13 are counted as silent, so that 14, then 15 and 16 are asked: eight answers with 14
     * and 15 are no quorum, for neither's district is covered. When 13 answers late, its is.
     */
    private static TripleHouse eightAnswersAndNoQuorum(Edge.Calls state) {
        TripleHouse x = Edge.after(state);
        Steps.deliverFirst(x, 6);
        for (int k = 0; k < 6; k++) {
            Due.is("an answer", x.deliver(2), 0);
        }
        x.silent(0, 13);
        x.silent(0, 12);
        for (int k = 0; k < 2; k++) {
            x.deliver(2);
            Due.is("an answer of 14, of 15", x.deliver(x.letters() - 1), 0);
        }
        return x;
    }

    static void eightGivesThatAreNoQuorum() {
        TripleHouse x = eightAnswersAndNoQuorum(States::asking);
        Due.is("answered", x.asked(0, false), Steps.set(0, 1, 3, 4, 9, 10, 14, 15));
        Due.is("asking", x.run(0, 0), 1);
    }

    static void giveOfASilentOfficeMakesAQuorum() {
        TripleHouse x = eightAnswersAndNoQuorum(States::asking);
        x.deliver(1);
        Due.is("from 13", x.letter(2, 1), 13);
        Due.is("deliver(2)", x.deliver(2), 8);
        Due.is("settling", x.run(0, 0), 2);
        Due.is("a SETTLE to all asked, so not to 13", x.letter(9, 2), 16);
    }

    static void eightTakensThatAreNoQuorum() {
        TripleHouse x = eightAnswersAndNoQuorum(States::settling);
        Due.is("answered", x.asked(0, false), Steps.set(0, 1, 3, 4, 9, 10, 14, 15));
        Due.is("not decided", x.decided(0, 0), -1);
    }

    static void takenOfASilentOfficeMakesAQuorum() {
        TripleHouse x = eightAnswersAndNoQuorum(States::settling);
        x.deliver(1);
        Due.is("from 13", x.letter(2, 1), 13);
        Due.is("deliver(2)", x.deliver(2), 0);
        Due.is("decided", x.decided(0, 0), 0);
    }

    static void giveTwice() {
        doesNothing(x -> {
            States.asking(x);
            x.deliver(7);
            x.twin(7);
            x.deliver(7);
        }, 7);
    }

    static void giveWithoutARun() {
        doesNothing(x -> {
            States.asking(x);
            x.deliver(7);
            x.crash(0);
            x.restart(0);
        }, 7);
    }

    /** The eighth GIVE makes no quorum when the run that had seven of them is gone. */
    static void eighthGiveForARunThatIsGone() {
        doesNothing(x -> {
            States.asking(x);
            Steps.deliverFirst(x, 15);
            x.crash(0);
            x.restart(0);
        }, 0);
    }

    static void giveOfAnotherBallot() {
        doesNothing(x -> {
            States.asking(x);
            x.deliver(7);
            x.crash(0);
            x.restart(0);
            Steps.start(x, 0, 0, 0, 0);
        }, 7);
    }

    static void giveWhileSettling() {
        doesNothing(x -> {
            States.asking(x);
            Steps.deliverFirst(x, 8);
            x.twin(7);
            Steps.deliverFirst(x, 8);
        }, 0);
    }

    static void takenTwice() {
        doesNothing(x -> {
            States.settling(x);
            x.deliver(7);
            x.twin(7);
            x.deliver(7);
        }, 7);
    }

    static void takenWithoutARun() {
        doesNothing(x -> {
            States.settling(x);
            Steps.deliverFirst(x, 8);
            x.twin(7);
            Steps.deliverFirst(x, 8);
        }, 0);
    }

    /** The eighth TAKEN decides nothing when the run that had seven of them is gone. */
    static void eighthTakenForARunThatIsGone() {
        Edge.Calls gone = x -> {
            States.settling(x);
            Steps.deliverFirst(x, 15);
            x.crash(0);
            x.restart(0);
        };
        doesNothing(gone, 0);
        TripleHouse x = Edge.after(gone);
        x.deliver(0);
        Due.is("not decided", x.decided(0, 0), -1);
    }

    /** The office is settling in its second run when a TAKEN of the first one comes. */
    static void takenOfAnotherBallot() {
        doesNothing(x -> {
            States.settling(x);
            x.deliver(7);
            x.crash(0);
            x.restart(0);
            Steps.start(x, 0, 0, 0, 0);
            for (int k = 0; k < 16; k++) {
                x.deliver(8);
            }
        }, 7);
    }

    /** 13 has promised its own ballot 40, and answers 0's ASK by a NO. */
    private static void withNo(TripleHouse x) {
        States.asking(x);
        Steps.start(x, 13, 0, 0, 0);
        x.deliver(7);
    }

    static void noWhileAsking() {
        TripleHouse x = Edge.after(EdgesOfDeliveryTest::withNo);
        Due.is("a NO", x.letter(15, 0), 2);
        Due.is("deliver(15)", x.deliver(15), 8);
        Due.is("asking", x.run(0, 0), 1);
        Due.is("ballot", x.run(0, 2), 54);
    }

    static void noWhileSettling() {
        TripleHouse x = Edge.after(States::settling);
        Steps.start(x, 1, 0, 0, 0);
        x.deliver(14);
        x.deliver(7);
        Due.is("a NO", x.letter(15, 0), 2);
        Due.is("deliver(15)", x.deliver(15), 8);
        Due.is("asking", x.run(0, 0), 1);
        Due.is("ballot", x.run(0, 2), 81);
        Due.is("its own draft", x.run(0, 3), 0);
    }

    static void noWithoutARun() {
        doesNothing(x -> {
            withNo(x);
            x.crash(0);
            x.restart(0);
        }, 15);
    }

    static void noOfAnotherBallot() {
        doesNothing(x -> {
            withNo(x);
            x.twin(15);
            x.deliver(15);
        }, 15);
    }

    static void noWhenTheRowIsFull() {
        TripleHouse x = Edge.after(EdgesOfDeliveryTest::withNo);
        Steps.fillTo(x, 150);
        Due.is("deliver(15)", x.deliver(15), 8);
        Due.is("letters", x.letters(), 150);
        Due.is("one ASK is kept", x.letter(149, 3), 54);
        Due.is("asked", x.asked(0, true), EIGHT);
    }

    static void giveOfNothingLeavesTheOwnDraft() {
        TripleHouse x = Edge.after(y -> {
            y.draft(0, 0);
            States.settling(y);
        });
        Due.is("its own draft", x.letter(0, 5), 1);
    }

    /** Of eight offices one has accepted draft 0, for number 0: that one is enough. */
    private static TripleHouse oneAcceptedBy(int o) {
        TripleHouse x = Edge.after(States::settling);
        x.deliver(o == 0 ? 0 : 7);
        Steps.loseAll(x);
        x.crash(0);
        x.restart(0);
        Steps.start(x, 0, 0, 0, 0);
        return x;
    }

    static void firstGiveAloneBringsADraft() {
        TripleHouse x = oneAcceptedBy(0);
        Steps.deliverFirst(x, 16);
        Due.is("draft", x.letter(0, 5), 0);
    }

    static void lastGiveAloneBringsADraft() {
        TripleHouse x = oneAcceptedBy(13);
        Steps.deliverFirst(x, 16);
        Due.is("draft", x.letter(0, 5), 0);
    }

    /** When that one's GIVE does not come in time, what it brings does not count. */
    static void giveBehindTheQuorumBringsNothing() {
        TripleHouse x = oneAcceptedBy(13);
        Steps.deliverFirst(x, 8);
        x.silent(0, 13);
        x.deliver(8);
        for (int k = 0; k < 7; k++) {
            x.deliver(0);
        }
        Due.is("the GIVE of 13 waits", x.letter(0, 1), 13);
        Due.is("the GIVE of 14", x.deliver(1), 8);
        Due.is("its own draft", x.letter(1, 5), 1);
        x.deliver(0);
        Due.is("resend", x.resend(0), 8);
        Due.is("still its own draft", x.letter(15, 5), 1);
    }

    /** What was accepted for number 0 is nothing to number 1. */
    static void giveBringsNothingOfAnotherNumber() {
        TripleHouse x = Edge.after(y -> States.knowing(y, 1));
        Steps.start(x, 4, 0, 0, 0);
        Steps.deliverFirst(x, 16);
        Due.is("number", x.letter(0, 4), 1);
        Due.is("its own draft", x.letter(0, 5), 1);
    }

    private static void tellWaits(TripleHouse x) {
        States.knowing(x, 1);
        x.spread(4);
    }

    static void tellOfANumberNotKnown() {
        TripleHouse x = Edge.after(EdgesOfDeliveryTest::tellWaits);
        Due.is("deliver(2)", x.deliver(2), 0);
        Due.is("decided", x.decided(5, 0), 0);
        Due.is("nothing is promised or accepted by that", x.accepted(22, 0), 0);
    }

    static void tellOfANumberKnownAlready() {
        doesNothing(x -> {
            tellWaits(x);
            x.twin(2);
            x.deliver(2);
        }, 5);
    }

    static void tellToTheOneThatSettledIt() {
        doesNothing(x -> {
            tellWaits(x);
            x.deliver(2);
            Steps.loseAll(x);
            x.spread(5);
        }, 2);
    }

    static void tellOfTheRunsNumberWithAnothersDraft() {
        TripleHouse x = Edge.after(EdgesOfDeliveryTest::tellWaits);
        Steps.start(x, 5, 0, 0, 0);
        Due.is("deliver(2)", x.deliver(2), 8);
        Due.is("number", x.run(5, 1), 1);
        Due.is("ballot", x.run(5, 2), 3 * 27 + 5);
    }

    /** 4 settles again when all have accepted its draft; 5 settled that meanwhile and tells it. */
    static void tellOfTheRunsNumberWithItsOwnDraft() {
        TripleHouse x = new TripleHouse();
        Steps.start(x, 4, 0, 0, 0);
        Steps.deliverFirst(x, 24);
        Steps.loseAll(x);
        Steps.start(x, 5, 0, 0, 0);
        Steps.deliverFirst(x, 32);
        Due.is("5 goes on with its own", x.run(5, 1), 1);
        x.spread(5);
        int at = Steps.find(x, 5, 4);
        Due.is("TELL", x.deliver(at), 0);
        Due.is("ended", x.run(4, 0), 0);
        Due.is("decided", x.decided(4, 0), 0);
        Due.is("promised as before", x.promised(4), 27 + 4);
    }

    static void tellOfAnotherNumberThanTheRuns() {
        TripleHouse x = Edge.after(y -> States.knowing(y, 2));
        x.spread(4);
        Steps.start(x, 5, 0, 0, 0);
        int ballot = x.run(5, 2);
        Due.is("deliver(8)", x.deliver(8), 0);
        Due.is("known", x.decided(5, 1), 1);
        Due.is("number", x.run(5, 1), 0);
        Due.is("ballot", x.run(5, 2), ballot);
    }

    /** "if there is none, the run ends": number 5 was the last one, and went to another draft. */
    static void tellOfTheLastNumberWithAnothersDraft() {
        TripleHouse x = Edge.after(y -> States.knowing(y, 6));
        x.spread(4);
        for (int k = 0; k < 5; k++) {
            x.deliver(2 + 5 * k);
        }
        Due.is("5 knows five numbers", x.complete(5), 5);
        Steps.start(x, 5, 0, 0, 0);
        Due.is("number", x.run(5, 1), 5);
        int promised = x.promised(5);
        Due.is("the sixth TELL", x.deliver(2 + 5 * 5), 0);
        Due.is("ended", x.run(5, 0), 0);
        Due.is("complete", x.complete(5), 6);
        Due.is("no further promise", x.promised(5), promised);
    }

    /** The same by a quorum of TAKENs, for a draft that was brought. */
    static void takensOfTheLastNumberWithAnotherDraft() {
        TripleHouse x = Edge.after(y -> States.knowing(y, 5));
        Steps.start(x, 4, 0, 0, 0);
        Steps.deliverFirst(x, 24);
        Steps.loseAll(x);
        x.crash(4);
        x.restart(4);
        Steps.start(x, 4, 0, 0, 0);
        Steps.deliverFirst(x, 31);
        Due.is("the last TAKEN", x.deliver(0), 0);
        Due.is("decided", x.decided(4, 5), 5);
        Due.is("ended", x.run(4, 0), 0);
        Due.is("no letters", x.letters(), 0);
    }

    /** TAKENs for a brought draft decide that one, and the run goes on for its own. */
    static void takensOfAnotherDraft() {
        TripleHouse x = oneAcceptedBy(0);
        Steps.deliverFirst(x, 31);
        Due.is("the last TAKEN", x.deliver(0), 8);
        Due.is("decided", x.decided(0, 0), 0);
        Due.is("number", x.run(0, 1), 1);
        Due.is("own draft", x.run(0, 3), 1);
        Due.is("ballot", x.run(0, 2), 81);
    }

    /** "nobody has answered", and nothing was brought: both begin anew with the run. */
    static void broughtDraftIsForgottenWithItsNumber() {
        TripleHouse x = oneAcceptedBy(0);
        Steps.deliverFirst(x, 32);
        Steps.deliverFirst(x, 16);
        Due.is("number", x.letter(0, 4), 1);
        Due.is("its own draft", x.letter(0, 5), 1);
    }
}
