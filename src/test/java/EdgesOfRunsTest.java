/** The limits of promises 4 to 7, 17 and 18, and of beginning a run. */
public final class EdgesOfRunsTest {
    private static final int EIGHT = Steps.set(0, 1, 3, 4, 9, 10, 12, 13);

    public static void main(String[] args) throws IllegalAccessException {
        Edge.all(EdgesOfRunsTest.class);
    }

    /** A new round of an office: it fails, comes back and proposes once more. */
    private static void anotherRound(TripleHouse x, int o) {
        x.crash(o);
        x.restart(o);
        Steps.start(x, o, 0, 0, 0);
    }

    static void proposeOfNoOfficeBelow() {
        Edge.refusedEverywhere(x -> x.propose(-1), Edge.ARGUMENT);
        Edge.refusedEverywhere(x -> x.propose(Integer.MIN_VALUE), Edge.ARGUMENT);
    }

    static void proposeOfNoOfficeAbove() {
        Edge.refusedEverywhere(x -> x.propose(27), Edge.ARGUMENT);
        Edge.refusedEverywhere(x -> x.propose(Integer.MAX_VALUE), Edge.ARGUMENT);
    }

    static void proposeOfTheFirstAndTheLastOffice() {
        TripleHouse x = new TripleHouse();
        Steps.open(x, 0, 0, 0, 0);
        Steps.open(x, 26, 0, 0, 0);
        Due.is("propose(0)", x.propose(0), 0);
        Due.is("propose(26)", x.propose(26), 0);
    }

    static void proposeWithoutADraft() {
        Edge.refusedEverywhere(x -> x.propose(13), Edge.ARGUMENT);
    }

    static void proposeWithoutLines() {
        Edge.refused(x -> x.draft(13, 0), x -> x.propose(13), Edge.ARGUMENT);
    }

    static void proposeWithOneLine() {
        TripleHouse x = new TripleHouse();
        x.draft(13, 0);
        x.line(13, 9, 0);
        Due.is("propose(13)", x.propose(13), 0);
    }

    static void proposeADraftTwice() {
        Edge.refused(States::asking, x -> x.propose(0), Edge.ARGUMENT);
    }

    static void proposeADraftThatIsSettled() {
        Edge.refused(States::busy, x -> x.propose(4), Edge.ARGUMENT);
    }

    /** A failed office has no draft, and IllegalArgumentException is named first. */
    static void proposeOfAFailedOffice() {
        Edge.Calls failed = x -> {
            States.busy(x);
            x.crash(2);
        };
        Edge.refused(failed, x -> x.propose(2), Edge.ARGUMENT);
        Edge.refused(failed, x -> x.propose(20), Edge.ARGUMENT);
    }

    static void proposeWhileARunIsAsking() {
        Edge.Calls another = x -> {
            States.asking(x);
            Steps.open(x, 0, 1, 1, 1);
        };
        Edge.refused(another, x -> x.propose(0), Edge.STATE);
    }

    static void proposeWhileARunIsSettling() {
        Edge.Calls another = x -> {
            States.settling(x);
            Steps.open(x, 0, 1, 1, 1);
        };
        Edge.refused(another, x -> x.propose(0), Edge.STATE);
    }

    /** "the one named first when several would do". */
    static void proposeWithoutLinesWhileARunIsOn() {
        Edge.Calls empty = x -> {
            States.asking(x);
            x.draft(0, 1);
        };
        Edge.refused(empty, x -> x.propose(0), Edge.ARGUMENT);
    }

    static void proposeForTheLastNumber() {
        TripleHouse x = Edge.after(y -> States.knowing(y, 5));
        Steps.open(x, 4, 0, 0, 0);
        Due.is("propose(4)", x.propose(4), 5);
        Due.is("its number", x.run(4, 1), 5);
    }

    static void proposeWhenAllNumbersAreDecided() {
        Edge.Calls all = x -> {
            States.knowing(x, 6);
            Steps.open(x, 4, 0, 0, 0);
        };
        Edge.refused(all, x -> x.propose(4), Edge.STATE);
    }

    static void proposeWithoutLinesWhenAllNumbersAreDecided() {
        Edge.Calls all = x -> {
            States.knowing(x, 6);
            x.draft(4, 0);
        };
        Edge.refused(all, x -> x.propose(4), Edge.ARGUMENT);
    }

    /** "the least that the office does not know decided": number 0 when it knows number 1 alone. */
    static void proposeBeforeAGap() {
        TripleHouse x = Edge.after(y -> States.knowing(y, 2));
        x.spread(4);
        x.deliver(6);
        Steps.open(x, 1, 0, 0, 0);
        Due.is("propose(1)", x.propose(1), 0);
        Steps.deliverFirst(x, x.letters() - 8);
        Due.is("the TELL of number 0 skips number 1, too", x.run(1, 1), 2);
    }

    static void nobodyIsSilentInANewRun() {
        TripleHouse x = Edge.after(States::noneToSpare);
        anotherRound(x, 0);
        Due.is("silent(0, 13)", x.silent(0, 13), 1);
        Due.is("silent(0, 26)", x.silent(0, 26), 0);
    }

    private static void proposeWithLettersWaiting(int waiting, int kept) {
        TripleHouse x = Edge.after(States::asking);
        Steps.fillTo(x, waiting);
        Steps.open(x, 26, 0, 0, 0);
        Due.is("propose(26)", x.propose(26), 0);
        Due.is("letters", x.letters(), waiting + kept);
        Due.is("asked", x.asked(26, true), Steps.set(26, 24, 20, 18, 8, 6, 2, 0));
        Due.is("promised", x.promised(26), 53);
        int[] order = {0, 2, 6, 8, 18, 20, 24, 26};
        for (int k = 0; k < kept; k++) {
            Due.is("the first ones are kept", x.letter(waiting + k, 2), order[k]);
        }
    }

    static void proposeWhenAllLettersJustFit() {
        proposeWithLettersWaiting(142, 8);
    }

    static void proposeWhenOneLetterIsTooMany() {
        proposeWithLettersWaiting(143, 7);
    }

    static void proposeWhenTheRowIsFull() {
        proposeWithLettersWaiting(150, 0);
    }

    /** "BALLOTS are 27 times a round (1 and more) and an office". */
    static void firstBallotIsOfRoundOne() {
        for (int o = 0; o < 27; o++) {
            TripleHouse x = new TripleHouse();
            Steps.start(x, o, 0, 0, 0);
            Due.is("ballot of " + o, x.run(o, 2), 27 + o);
            Due.is("promised at once", x.promised(o), 27 + o);
        }
    }

    /** 53 is the last ballot of round 1, and 54 the first one of round 2. */
    static void roundBehindTheLastBallotOfARound() {
        TripleHouse x = new TripleHouse();
        Steps.start(x, 26, 0, 0, 0);
        x.deliver(0);
        Due.is("0 promised", x.promised(0), 53);
        Steps.start(x, 0, 0, 0, 0);
        Due.is("ballot", x.run(0, 2), 54);
    }

    static void roundBehindTheFirstBallotOfARound() {
        TripleHouse x = new TripleHouse();
        Steps.start(x, 0, 0, 0, 0);
        anotherRound(x, 0);
        x.deliver(8 + 1);
        Due.is("1 promised", x.promised(1), 54);
        Steps.start(x, 1, 0, 0, 0);
        Due.is("ballot", x.run(1, 2), 82);
    }

    /** Office 13 has promised rounds times its own ballots when it answers 0's ASK by a NO. */
    private static TripleHouse noFrom13(int rounds) {
        TripleHouse x = new TripleHouse();
        Steps.start(x, 13, 0, 0, 0);
        for (int k = 1; k < rounds; k++) {
            anotherRound(x, 13);
        }
        Steps.loseAll(x);
        Steps.start(x, 0, 0, 0, 0);
        x.deliver(7);
        Due.is("what the NO tells", x.letter(7, 5), 27 * rounds + 13);
        return x;
    }

    static void roundBehindANoOfTheSameRound() {
        TripleHouse x = noFrom13(1);
        x.deliver(7);
        Due.is("ballot", x.run(0, 2), 2 * 27);
    }

    static void roundBehindANoOfAGreaterRound() {
        TripleHouse x = noFrom13(3);
        x.deliver(7);
        Due.is("ballot", x.run(0, 2), 4 * 27);
        Due.is("promised at once", x.promised(0), 4 * 27);
    }

    static void roundBehindAPromiseOfAGreaterRoundThanTheNo() {
        TripleHouse x = noFrom13(1);
        Steps.start(x, 26, 0, 0, 0);
        anotherRound(x, 26);
        anotherRound(x, 26);
        x.deliver(8 + 16);
        Due.is("0 promised", x.promised(0), 3 * 27 + 26);
        x.deliver(7);
        Due.is("ballot", x.run(0, 2), 4 * 27);
    }

    /** "(one that makes it begin anew)": a NO to an older ballot counts nothing, then or later. */
    static void roundOfANoThatComesTooLate() {
        TripleHouse x = new TripleHouse();
        Steps.settle(x, 18, 0, 0, 0);
        x.spread(18);
        int tell = Steps.find(x, 5, 0);
        Steps.start(x, 13, 0, 0, 0);
        anotherRound(x, 13);
        int asks = x.letters();
        Steps.start(x, 0, 0, 0, 0);
        Due.is("the ballot of 0", x.run(0, 2), 54);
        x.resend(0);
        x.deliver(asks + 7);
        anotherRound(x, 13);
        anotherRound(x, 13);
        x.deliver(asks + 14);
        Due.is("the second NO tells round 4", x.letter(x.letters() - 1, 5), 4 * 27 + 13);
        Due.is("the first NO begins anew", x.deliver(Steps.find(x, 2, 0)), 8);
        Due.is("round 3", x.run(0, 2), 81);
        Due.is("the second one does nothing", x.deliver(Steps.find(x, 2, 0)), 0);
        Due.is("a TELL begins anew", x.deliver(tell), 8);
        Due.is("round 4, not 5", x.run(0, 2), 108);
    }

    /** "nobody has answered", and who was silent stays so. */
    static void begunAnewWithoutAnswers() {
        TripleHouse x = noFrom13(1);
        x.silent(0, 1);
        x.deliver(0);
        x.deliver(x.letters() - 1);
        Due.is("0 answered itself", x.asked(0, false), 1);
        x.deliver(Steps.find(x, 2, 0));
        Due.is("begun anew", x.run(0, 2), 54);
        Due.is("nobody has answered", x.asked(0, false), 0);
        Due.is("1 is silent", x.asked(0, true), EIGHT & ~2 | 4);
        Due.is("and cannot be again", Edge.answer(x, y -> y.silent(0, 1)), Edge.STATE);
    }

    /** Who is asked anew comes from the choice, also those that were asked by silence only. */
    static void begunAnewForTheSameChoice() {
        TripleHouse x = noFrom13(1);
        x.silent(0, 13);
        int waiting = x.letters();
        Due.is("eight ASKs", x.deliver(Steps.find(x, 2, 0)), 8);
        Due.is("asked", x.asked(0, true), EIGHT & ~(1 << 13) | 1 << 14);
        Due.is("the last one goes to 14", x.letter(waiting + 6, 2), 14);
    }

    static void silentOfNoOfficeBelow() {
        Edge.refusedEverywhere(x -> x.silent(-1, 1), Edge.ARGUMENT);
    }

    static void silentOfNoOfficeAbove() {
        Edge.refusedEverywhere(x -> x.silent(27, 1), Edge.ARGUMENT);
    }

    static void silentForNoOfficeBelow() {
        Edge.refusedEverywhere(x -> x.silent(0, -1), Edge.ARGUMENT);
        Edge.refusedEverywhere(x -> x.silent(0, Integer.MIN_VALUE), Edge.ARGUMENT);
    }

    static void silentForNoOfficeAbove() {
        Edge.refusedEverywhere(x -> x.silent(0, 27), Edge.ARGUMENT);
        // 32 and 59 would be offices 0 and 27 for a shift that wraps around.
        Edge.refusedEverywhere(x -> x.silent(0, 32), Edge.ARGUMENT);
        Edge.refusedEverywhere(x -> x.silent(0, 59), Edge.ARGUMENT);
    }

    static void silentForNoOfficeInAFailedOne() {
        Edge.refused(States::busy, x -> x.silent(20, 27), Edge.ARGUMENT);
    }

    static void silentInAFailedOffice() {
        Edge.refused(States::busy, x -> x.silent(20, 1), Edge.STATE);
    }

    static void silentWithoutARun() {
        Edge.refusedEverywhere(x -> x.silent(13, 1), Edge.STATE);
    }

    static void silentInARunThatHasEnded() {
        Edge.refused(States::busy, x -> x.silent(4, 5), Edge.STATE);
    }

    static void silentAlready() {
        Edge.refused(States::busy, x -> x.silent(26, 24), Edge.STATE);
    }

    static void silentForTheFirstAndTheLastOffice() {
        TripleHouse x = Edge.after(States::asking);
        Due.is("silent(0, 26)", x.silent(0, 26), 0);
        Due.is("silent(0, 0)", x.silent(0, 0), 1);
        Due.is("asked", x.asked(0, true), EIGHT & ~1 | 4);
    }

    /** "(also itself)". */
    static void silentForItself() {
        TripleHouse x = Edge.after(States::asking);
        Due.is("silent(0, 0)", x.silent(0, 0), 1);
        Due.is("asked", x.asked(0, true), EIGHT & ~1 | 4);
        Due.is("the ASK goes to 2", x.letter(8, 2), 2);
        Due.is("again", Edge.answer(x, y -> y.silent(0, 0)), Edge.STATE);
    }

    /** Eight offices are left: each of them is needed, and the others are silent already. */
    static void silentWhenThereWouldBeNoChoice() {
        for (int k = 0; k < 27; k++) {
            int p = k;
            Edge.refused(States::noneToSpare, x -> x.silent(0, p), Edge.STATE);
        }
    }

    static void silentDownToTheLastChoice() {
        TripleHouse x = Edge.after(States::noneToSpare);
        Due.is("asked", x.asked(0, true), EIGHT);
        Due.is("nothing more was sent", x.letters(), 8);
    }

    /** The row has 150 letters: none is kept, but those sent are counted. */
    static void silentWhenTheRowIsFull() {
        TripleHouse x = Edge.after(States::asking);
        x.silent(0, 1);
        Steps.fillTo(x, 150);
        Due.is("silent(0, 2) takes two others", x.silent(0, 2), 2);
        Due.is("letters", x.letters(), 150);
        Due.is("asked", x.asked(0, true), EIGHT & ~3 | Steps.set(6, 7));
    }

    static void silentWhenOneLetterIsTooMany() {
        TripleHouse x = Edge.after(States::asking);
        x.silent(0, 1);
        Steps.fillTo(x, 149);
        Due.is("silent(0, 2) takes two others", x.silent(0, 2), 2);
        Due.is("letters", x.letters(), 150);
        Due.is("the first one is kept", x.letter(149, 2), 6);
    }

    /** "who has answered stays", also when it is the one that is counted as silent. */
    static void silentForOneThatHasAnswered() {
        TripleHouse x = Edge.after(States::asking);
        Steps.deliverFirst(x, 8);
        x.deliver(0);
        Due.is("silent(0, 0)", x.silent(0, 0), 1);
        Due.is("0 has answered", x.asked(0, false), 1);
        Due.no("but is not asked", (x.asked(0, true) & 1) != 0);
    }

    static void resendOfNoOfficeBelow() {
        Edge.refusedEverywhere(x -> x.resend(-1), Edge.ARGUMENT);
        Edge.refusedEverywhere(x -> x.resend(Integer.MIN_VALUE), Edge.ARGUMENT);
    }

    static void resendOfNoOfficeAbove() {
        Edge.refusedEverywhere(x -> x.resend(27), Edge.ARGUMENT);
        Edge.refusedEverywhere(x -> x.resend(Integer.MAX_VALUE), Edge.ARGUMENT);
    }

    static void resendOfAFailedOffice() {
        Edge.refused(States::busy, x -> x.resend(20), Edge.STATE);
        Edge.Calls failed = x -> {
            States.busy(x);
            x.crash(26);
        };
        Edge.refused(failed, x -> x.resend(26), Edge.STATE);
    }

    static void resendWithoutARun() {
        Edge.refusedEverywhere(x -> x.resend(13), Edge.STATE);
    }

    static void resendInARunThatHasEnded() {
        Edge.refused(States::busy, x -> x.resend(4), Edge.STATE);
    }

    static void resendWhenNobodyHasAnswered() {
        TripleHouse x = Edge.after(States::asking);
        Due.is("resend(0)", x.resend(0), 8);
        Due.is("letters", x.letters(), 16);
    }

    static void resendWhenAllButOneHaveAnswered() {
        TripleHouse x = Edge.after(States::asking);
        Steps.deliverFirst(x, 8);
        Steps.deliverFirst(x, 7);
        Due.is("resend(0)", x.resend(0), 1);
        Due.is("to 13", x.letter(1, 2), 13);
    }

    /** Who answered before it was silent is not asked any more, and the new one has not answered. */
    static void resendBehindSilence() {
        TripleHouse x = Edge.after(States::asking);
        Steps.deliverFirst(x, 8);
        Steps.deliverFirst(x, 7);
        x.silent(0, 0);
        Due.is("resend(0)", x.resend(0), 2);
        Due.is("to 2", x.letter(2, 2), 2);
        Due.is("to 13", x.letter(3, 2), 13);
    }

    static void resendWhenTheRowIsFull() {
        TripleHouse x = Edge.after(States::asking);
        Steps.fillTo(x, 150);
        Due.is("resend(0)", x.resend(0), 8);
        Due.is("letters", x.letters(), 150);
    }

    static void resendWhenAllLettersJustFit() {
        TripleHouse x = Edge.after(States::asking);
        Steps.fillTo(x, 142);
        Due.is("resend(0)", x.resend(0), 8);
        Due.is("letters", x.letters(), 150);
        Due.is("the last one", x.letter(149, 2), 13);
    }

    static void spreadOfNoOfficeBelow() {
        Edge.refusedEverywhere(x -> x.spread(-1), Edge.ARGUMENT);
        Edge.refusedEverywhere(x -> x.spread(Integer.MIN_VALUE), Edge.ARGUMENT);
    }

    static void spreadOfNoOfficeAbove() {
        Edge.refusedEverywhere(x -> x.spread(27), Edge.ARGUMENT);
        Edge.refusedEverywhere(x -> x.spread(Integer.MAX_VALUE), Edge.ARGUMENT);
    }

    static void spreadOfAFailedOffice() {
        Edge.refused(States::busy, x -> x.spread(20), Edge.STATE);
        Edge.Calls failed = x -> {
            States.busy(x);
            x.crash(4);
        };
        Edge.refused(failed, x -> x.spread(4), Edge.STATE);
    }

    static void spreadOfNothing() {
        Edge.refusedEverywhere(x -> x.spread(13), 0);
    }

    static void spreadOfAllNumbers() {
        TripleHouse x = Edge.after(y -> States.knowing(y, 6));
        Due.is("spread(4)", x.spread(4), 36);
        Due.is("letters", x.letters(), 36);
        int[] order = {1, 3, 5, 7, 13, 22};
        for (int i = 0; i < 36; i++) {
            Due.is("number", x.letter(i, 4), i / 6);
            Due.is("to", x.letter(i, 2), order[i % 6]);
            Due.is("draft", x.letter(i, 5), i / 6);
        }
    }

    /** Each office has six neighbours, the first and the last one, too: no more, no less. */
    static void spreadOfEachOffice() {
        for (int o = 0; o < 27; o++) {
            TripleHouse x = new TripleHouse();
            Steps.settle(x, o, 0, 0, 0);
            Due.is("spread(" + o + ")", x.spread(o), 6);
            int i = 0;
            for (int p = 0; p < 27; p++) {
                if (differInOnePlace(o, p)) {
                    Due.is("letter of " + o, x.letter(i, 2), p);
                    i++;
                }
            }
            Due.is("letters", x.letters(), i);
        }
    }

    private static boolean differInOnePlace(int o, int p) {
        boolean office = o / 3 == p / 3;
        boolean district = o / 9 == p / 9 && o % 3 == p % 3;
        boolean region = o % 9 == p % 9;
        return o != p && (office || district || region);
    }

    /** Number 1 is told although number 0 is not known. */
    static void spreadBehindAGap() {
        TripleHouse x = Edge.after(y -> States.knowing(y, 2));
        x.spread(4);
        x.deliver(6);
        Steps.loseAll(x);
        Due.is("spread(1)", x.spread(1), 6);
        Due.is("number", x.letter(0, 4), 1);
    }

    private static void spreadWithLettersWaiting(int waiting, int kept) {
        TripleHouse x = Edge.after(States::busy);
        Steps.fillTo(x, waiting);
        Due.is("spread(4)", x.spread(4), 6);
        Due.is("letters", x.letters(), waiting + kept);
    }

    static void spreadWhenAllLettersJustFit() {
        spreadWithLettersWaiting(144, 6);
    }

    static void spreadWhenOneLetterIsTooMany() {
        spreadWithLettersWaiting(145, 5);
    }

    static void spreadWhenTheRowIsFull() {
        spreadWithLettersWaiting(150, 0);
    }

    static void askedOfNoOffice() {
        TripleHouse x = Edge.after(States::busy);
        Due.is("asked(-1, true)", x.asked(-1, true), 0);
        Due.is("asked(27, true)", x.asked(27, true), 0);
        Due.is("asked(-1, false)", x.asked(-1, false), 0);
        Due.is("asked(27, false)", x.asked(27, false), 0);
    }

    static void askedOfNoRun() {
        TripleHouse x = Edge.after(States::busy);
        Due.is("asked(13, true)", x.asked(13, true), 0);
        Due.is("asked(13, false)", x.asked(13, false), 0);
    }

    static void askedOfARunThatHasEnded() {
        TripleHouse x = Edge.after(States::busy);
        Due.is("asked(4, true)", x.asked(4, true), 0);
        Due.is("asked(4, false)", x.asked(4, false), 0);
    }

    static void askedOfARunThatIsGone() {
        TripleHouse x = Edge.after(States::busy);
        x.crash(26);
        Due.is("asked(26, true)", x.asked(26, true), 0);
        Due.is("asked(26, false)", x.asked(26, false), 0);
        x.restart(26);
        Due.is("asked(26, true)", x.asked(26, true), 0);
        Due.is("asked(26, false)", x.asked(26, false), 0);
    }

    static void askedOfTheLastOffice() {
        TripleHouse x = Edge.after(States::busy);
        Due.is("asked(26, true)", x.asked(26, true), Steps.set(26, 25, 20, 18, 8, 6, 2, 0));
        Due.is("asked(26, false)", x.asked(26, false), 1);
    }

    /** In the second phase nobody has answered at first. */
    static void answeredInThisPhaseOnly() {
        TripleHouse x = Edge.after(States::settling);
        Due.is("asked(0, false)", x.asked(0, false), 0);
        Due.is("asked(0, true)", x.asked(0, true), EIGHT);
    }

    static void runOfNoOffice() {
        TripleHouse x = Edge.after(States::busy);
        for (int what = -1; what < 5; what++) {
            Due.is("run(-1, " + what + ")", x.run(-1, what), -1);
            Due.is("run(27, " + what + ")", x.run(27, what), -1);
        }
    }

    static void runOfNoWhatBelow() {
        TripleHouse x = Edge.after(States::busy);
        Due.is("run(0, -1)", x.run(0, -1), -1);
        Due.is("run(13, -1)", x.run(13, -1), -1);
        Due.is("run(0, MIN)", x.run(0, Integer.MIN_VALUE), -1);
    }

    static void runOfNoWhatAbove() {
        TripleHouse x = Edge.after(States::busy);
        Due.is("run(0, 4)", x.run(0, 4), -1);
        Due.is("run(13, 4)", x.run(13, 4), -1);
        Due.is("run(0, MAX)", x.run(0, Integer.MAX_VALUE), -1);
    }

    static void runOfNoRun() {
        noRun(Edge.after(States::busy), 13);
    }

    static void runOfARunThatHasEnded() {
        noRun(Edge.after(States::busy), 4);
    }

    static void runOfARunThatIsGone() {
        TripleHouse x = Edge.after(States::busy);
        x.crash(26);
        noRun(x, 26);
        x.restart(26);
        noRun(x, 26);
    }

    private static void noRun(TripleHouse x, int o) {
        Due.is("phase", x.run(o, 0), 0);
        Due.is("number", x.run(o, 1), -1);
        Due.is("ballot", x.run(o, 2), -1);
        Due.is("own draft", x.run(o, 3), -1);
    }

    static void runOfTheLastOffice() {
        TripleHouse x = Edge.after(States::busy);
        Due.is("phase", x.run(26, 0), 2);
        Due.is("number", x.run(26, 1), 0);
        Due.is("ballot", x.run(26, 2), 53);
        Due.is("its own draft, not what it settles", x.run(26, 3), 2);
    }
}
