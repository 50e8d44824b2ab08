/** Promises 8 to 12: the row of letters, what they hold, and what delivering them does. */
public final class LettersTest {
    public static void main(String[] args) {
        partsOfEachKind();
        partsRefused();
        undisturbedRun();
        acceptedDraftIsTakenOver();
        greatestBallotWins();
        noWhileSettling();
        broughtAgainWhenBegunAnew();
        oldLettersChangeNothing();
        oldGivesAndTakensOfAnotherBallot();
        takensForARunThatIsGone();
        giveBringsWhatWasAcceptedThen();
        tellEndsOrRenewsRuns();
        tellOfAnotherNumber();
        lastNumberEndsTheRun();
        failedOfficeHearsNothing();
        deliverRefused();
        lose();
        twin();
        fullRow();
        Due.end();
    }

    private static void checkLetter(TripleHouse x, int i, int... parts) {
        for (int what = 0; what < 6; what++) {
            Due.is("letter(" + i + ", " + what + ")", x.letter(i, what), parts[what]);
        }
    }

    private static void partsOfEachKind() {
        TripleHouse x = new TripleHouse();
        Steps.start(x, 2, 0, 0, 0);
        checkLetter(x, 0, 0, 2, 0, 29, 0, -1);
        Due.is("ASK", x.deliver(0), 1);
        checkLetter(x, 7, 1, 0, 2, 29, 0, -1);
        Steps.deliverFirst(x, 14);
        Due.is("the GIVE that makes a quorum", x.deliver(0), 8);
        checkLetter(x, 1, 3, 2, 2, 29, 0, 0);
        Due.is("SETTLE", x.deliver(0), 1);
        checkLetter(x, 7, 4, 0, 2, 29, 0, -1);
        Steps.deliverAll(x);
        x.spread(2);
        checkLetter(x, 0, 5, 2, 0, 0, 0, 0);
        Steps.loseAll(x);
        Steps.start(x, 20, 0, 0, 0);
        int at = Steps.find(x, 0, 2);
        Due.is("an ASK below what was promised", x.deliver(at), 1);
        checkLetter(x, x.letters() - 1, 1, 2, 20, 47, 0, -1);
        x.crash(20);
        x.restart(20);
        Steps.loseAll(x);
        Steps.start(x, 0, 0, 0, 0);
        Steps.deliverFirst(x, 1);
        Due.is("0 promised itself more", x.promised(0), 54);
        Steps.loseAll(x);
        Steps.start(x, 18, 0, 0, 0);
        Due.is("round 1 of 18", x.run(18, 2), 45);
        x.deliver(Steps.find(x, 0, 0));
        checkLetter(x, x.letters() - 1, 2, 0, 18, 45, -1, 54);
    }

    private static void partsRefused() {
        TripleHouse x = new TripleHouse();
        Due.fails("no letters", () -> x.letter(0, 0), Due.OUT_OF_BOUNDS);
        Steps.start(x, 2, 0, 0, 0);
        Due.fails("i = -1", () -> x.letter(-1, 0), Due.OUT_OF_BOUNDS);
        Due.fails("i = 8", () -> x.letter(8, 0), Due.OUT_OF_BOUNDS);
        Due.fails("what = -1", () -> x.letter(0, -1), Due.OUT_OF_BOUNDS);
        Due.fails("what = 6", () -> x.letter(0, 6), Due.OUT_OF_BOUNDS);
        Due.fails("far above", () -> x.letter(Integer.MAX_VALUE, 0), Due.OUT_OF_BOUNDS);
        Due.fails("far below", () -> x.letter(Integer.MIN_VALUE, 0), Due.OUT_OF_BOUNDS);
        Due.is("the last one is there", x.letter(7, 2), 14);
    }

    private static void undisturbedRun() {
        TripleHouse x = new TripleHouse();
        Steps.start(x, 0, 0, 0, 0);
        Due.is("letters", x.letters(), 8);
        Due.is("first ASK", x.deliver(3), 1);
        Due.is("it promised", x.promised(4), 27);
        Due.is("the row closes up", x.letter(3, 2), 9);
        Due.is("letters", x.letters(), 8);
        Due.is("first GIVE", x.deliver(7), 0);
        Due.is("answered", x.asked(0, false), 16);
        Due.is("letters", x.letters(), 7);
        Steps.deliverFirst(x, 7);
        Due.is("asking", x.run(0, 0), 1);
        for (int k = 0; k < 6; k++) {
            Due.is("GIVE", x.deliver(0), 0);
        }
        Due.is("last GIVE", x.deliver(0), 8);
        Due.is("settling", x.run(0, 0), 2);
        Due.is("nobody has answered", x.asked(0, false), 0);
        Due.is("asked", x.asked(0, true), Steps.set(0, 1, 3, 4, 9, 10, 12, 13));
        Due.is("SETTLE", x.deliver(0), 1);
        Due.is("accepted", x.accepted(0, 0), 27);
        Due.is("accepted for that number only", x.accepted(0, 1), 0);
        Due.is("not decided", x.decided(0, 0), -1);
        Steps.deliverFirst(x, 7);
        Steps.deliverFirst(x, 7);
        Due.is("seven of eight", x.decided(0, 0), -1);
        Due.is("last TAKEN", x.deliver(0), 0);
        Due.is("decided", x.decided(0, 0), 0);
        Due.is("ended", x.run(0, 0), 0);
        Due.is("nobody else knows", x.decided(1, 0), -1);
    }

    /** Office 0 accepts draft 0 of its own; office 26 then finds it and settles it. */
    private static void acceptedDraftIsTakenOver() {
        TripleHouse x = new TripleHouse();
        Steps.start(x, 0, 0, 0, 0);
        Steps.deliverFirst(x, 16);
        x.deliver(0);
        Due.is("0 accepted", x.accepted(0, 0), 27);
        Steps.loseAll(x);
        x.crash(0);
        x.restart(0);
        Steps.start(x, 26, 0, 0, 0);
        Due.is("26's own draft", x.run(26, 3), 1);
        Steps.deliverFirst(x, 16);
        Due.is("settling", x.run(26, 0), 2);
        Due.is("what it settles", x.letter(0, 5), 0);
        Due.is("its own draft is still 1", x.run(26, 3), 1);
        Steps.deliverFirst(x, 8);
        Steps.deliverFirst(x, 7);
        Due.is("the last TAKEN begins it anew", x.deliver(0), 8);
        Due.is("draft 0 is decided", x.decided(26, 0), 0);
        Due.is("asking", x.run(26, 0), 1);
        Due.is("for number 1", x.run(26, 1), 1);
        Due.is("in round 2", x.run(26, 2), 2 * 27 + 26);
        Due.is("promised at once", x.promised(26), 80);
        Due.is("nobody has answered", x.asked(26, false), 0);
        Steps.deliverAll(x);
        Due.is("its own draft under number 1", x.decided(26, 1), 1);
        Due.is("ended", x.run(26, 0), 0);
    }

    /** Offices 0 and 26 accepted different drafts; 8 hears of both and takes the later one. */
    private static void greatestBallotWins() {
        for (int first = 0; first < 2; first++) {
            TripleHouse x = new TripleHouse();
            acceptAtOne(x, first == 0 ? 0 : 26);
            acceptAtOne(x, first == 0 ? 26 : 0);
            Due.is("accepted at 0", x.accepted(0, 0), first == 0 ? 27 : 54);
            Due.is("accepted at 26", x.accepted(26, 0), 53);
            Steps.start(x, 8, 0, 0, 0);
            int choice = Steps.set(8, 6, 2, 0, 17, 15, 11, 9);
            Due.is("choice of 8", x.asked(8, true), choice);
            x.silent(8, 9);
            x.silent(8, 10);
            x.silent(8, 15);
            x.silent(8, 16);
            Due.is("regions 0 and 2", x.asked(8, true), Steps.set(8, 6, 2, 0, 26, 24, 20, 18));
            Steps.loseAll(x);
            x.resend(8);
            askUntilSettling(x, 8);
            Due.is("the greatest ballot's draft", x.letter(Steps.find(x, 3, 0), 5), 1);
        }
    }

    /** A whole asking of office o, and then its SETTLE at o alone. */
    private static void acceptAtOne(TripleHouse x, int o) {
        Steps.start(x, o, 0, 0, 0);
        if (o == 26) {
            settleAtRegionsTwoAndOne(x);
        } else {
            askUntilSettling(x, o);
        }
        x.deliver(Steps.find(x, 3, o));
        Steps.loseAll(x);
        x.crash(o);
        x.restart(o);
    }

    /** So that 26 does not hear of what 0 accepted, it goes to region 1 in place of 0. */
    private static void settleAtRegionsTwoAndOne(TripleHouse x) {
        x.silent(26, 0);
        x.silent(26, 1);
        x.silent(26, 6);
        x.silent(26, 7);
        Steps.loseAll(x);
        x.resend(26);
        askUntilSettling(x, 26);
    }

    private static void askUntilSettling(TripleHouse x, int o) {
        for (int k = 0; k < 200 && x.run(o, 0) == 1 && x.letters() > 0; k++) {
            x.deliver(0);
        }
        Due.is("settling", x.run(o, 0), 2);
    }

    private static void noWhileSettling() {
        TripleHouse x = new TripleHouse();
        Steps.start(x, 0, 0, 0, 0);
        Steps.deliverFirst(x, 16);
        Due.is("settling", x.run(0, 0), 2);
        Steps.start(x, 13, 0, 0, 0);
        x.deliver(Steps.find(x, 0, 13));
        Due.is("13 promised its own", x.promised(13), 67);
        Due.is("SETTLE at 13", x.deliver(Steps.find(x, 3, 13)), 1);
        int at = Steps.find(x, 2, 0);
        checkLetter(x, at, 2, 13, 0, 27, -1, 67);
        Due.is("13 did not accept", x.accepted(13, 0), 0);
        Due.yes("twin of the NO", x.twin(at));
        Due.is("begun anew", x.deliver(at), 8);
        Due.is("asking", x.run(0, 0), 1);
        Due.is("behind the NO's round", x.run(0, 2), 81);
        Due.is("the same number", x.run(0, 1), 0);
        Due.is("the second NO is for an old ballot", x.deliver(Steps.find(x, 2, 0)), 0);
        Due.is("no further round", x.run(0, 2), 81);
    }

    /** Office 1 hears of draft 0, begins anew by a NO, and hears of it once more. */
    private static void broughtAgainWhenBegunAnew() {
        TripleHouse x = new TripleHouse();
        Steps.start(x, 0, 0, 0, 0);
        Steps.deliverFirst(x, 24);
        Steps.loseAll(x);
        Steps.start(x, 1, 0, 0, 0);
        Steps.deliverFirst(x, 8);
        for (int k = 0; k < 7; k++) {
            Due.is("a GIVE", x.deliver(0), 0);
        }
        Steps.loseAll(x);
        Steps.start(x, 2, 0, 0, 0);
        Due.is("2 promised more than 1 asked for", x.promised(2), 83);
        x.resend(1);
        Due.is("14 has not answered", x.letter(x.letters() - 1, 2), 14);
        x.deliver(Steps.find(x, 0, 14));
        Due.is("14 promised to 2", x.promised(14), 83);
        x.deliver(Steps.find(x, 0, 14));
        Due.is("a NO", x.deliver(Steps.find(x, 2, 1)), 8);
        x.crash(2);
        x.restart(2);
        Due.is("begun anew", x.run(1, 2), 4 * 27 + 1);
        askUntilSettling(x, 1);
        Due.is("draft 0 once more", x.letter(Steps.find(x, 3, 1), 5), 0);
    }

    /** What was given or taken for an old ballot does not count for the present one. */
    private static void oldGivesAndTakensOfAnotherBallot() {
        TripleHouse x = new TripleHouse();
        Steps.start(x, 0, 0, 0, 0);
        x.deliver(Steps.find(x, 0, 13));
        int give = x.letters() - 1;
        x.twin(give);
        x.crash(0);
        x.restart(0);
        Due.is("a GIVE without a run", x.deliver(give), 0);
        Steps.start(x, 0, 0, 0, 0);
        Due.is("round 2", x.run(0, 2), 54);
        Due.is("a GIVE of round 1", x.deliver(Steps.find(x, 1, 0)), 0);
        Due.is("does not count", x.asked(0, false), 0);

        TripleHouse y = new TripleHouse();
        Steps.start(y, 0, 0, 0, 0);
        Steps.deliverFirst(y, 24);
        Due.is("eight TAKENs wait", y.letters(), 8);
        y.crash(0);
        y.restart(0);
        Steps.start(y, 0, 0, 0, 0);
        for (int k = 0; k < 8; k++) {
            y.deliver(8);
        }
        for (int k = 0; k < 8; k++) {
            y.deliver(8);
        }
        Due.is("settling in round 2", y.run(0, 0), 2);
        Due.is("TAKENs first", y.letter(0, 0), 4);
        for (int k = 0; k < 8; k++) {
            Due.is("a TAKEN of round 1", y.deliver(0), 0);
            Due.is("does not count", y.asked(0, false), 0);
        }
        Due.is("not decided", y.decided(0, 0), -1);
    }

    private static void takensForARunThatIsGone() {
        TripleHouse x = new TripleHouse();
        Steps.start(x, 0, 0, 0, 0);
        Steps.deliverFirst(x, 24);
        Due.is("TAKEN", x.letter(0, 0), 4);
        x.deliver(0);
        x.crash(0);
        x.restart(0);
        Steps.deliverAll(x);
        Due.is("nobody counts them", x.decided(0, 0), -1);
        Due.is("no run", x.run(0, 0), 0);
    }

    private static void oldLettersChangeNothing() {
        TripleHouse x = new TripleHouse();
        Steps.start(x, 0, 0, 0, 0);
        Steps.deliverFirst(x, 8);
        x.twin(0);
        Due.is("GIVE", x.deliver(0), 0);
        Due.is("answered", x.asked(0, false), 1);
        x.twin(7);
        Due.is("its twin", x.deliver(7), 0);
        Due.is("answered once", x.asked(0, false), 1);
        Steps.deliverFirst(x, 7);
        Due.is("settling", x.run(0, 0), 2);
        Due.is("a GIVE while settling", x.deliver(0), 0);
        Due.is("does not count", x.asked(0, false), 0);
        x.deliver(0);
        x.twin(x.letters() - 1);
        x.crash(0);
        x.restart(0);
        Due.is("a TAKEN without a run", x.deliver(x.letters() - 1), 0);
        Steps.start(x, 0, 0, 0, 0);
        Due.is("a TAKEN of an old ballot", x.deliver(Steps.find(x, 4, 0)), 0);
        Due.is("does not count", x.asked(0, false), 0);
        Due.is("an old SETTLE gets a NO from 0 itself", x.promised(0), 54);
    }

    /** The GIVE is told before its office accepts more; what it brings stays what it was. */
    private static void giveBringsWhatWasAcceptedThen() {
        TripleHouse x = new TripleHouse();
        Steps.start(x, 0, 0, 0, 0);
        Steps.deliverFirst(x, 8);
        Steps.start(x, 1, 0, 0, 0);
        askOnly(x, 1);
        Due.is("4 promised to 1", x.promised(4), 55);
        x.deliver(Steps.find(x, 3, 1));
        Due.is("1 accepted", x.accepted(1, 0), 55);
        for (int k = 0; k < 8; k++) {
            x.deliver(Steps.find(x, 1, 0));
        }
        Due.is("0 is settling", x.run(0, 0), 2);
        int at = Steps.find(x, 3, 3);
        Due.is("from 0", x.letter(at, 1), 0);
        Due.is("its own draft, as none was brought", x.letter(at, 5), 0);
    }

    private static void askOnly(TripleHouse x, int o) {
        for (int i = 0; i < x.letters(); i++) {
            if (x.letter(i, 0) == 0 && x.letter(i, 1) == o) {
                x.deliver(i);
                i--;
            }
        }
        for (int k = 0; k < 8; k++) {
            x.deliver(Steps.find(x, 1, o));
        }
        Due.is("settling", x.run(o, 0), 2);
    }

    private static void tellEndsOrRenewsRuns() {
        TripleHouse x = new TripleHouse();
        Steps.settle(x, 4, 0, 0, 0);
        Steps.start(x, 5, 0, 0, 0);
        Due.is("5 does not know number 0", x.run(5, 1), 0);
        int ballot = x.run(5, 2);
        x.silent(5, 26);
        x.spread(4);
        int at = Steps.find(x, 5, 5);
        x.twin(at);
        Due.is("a TELL of another draft begins it anew", x.deliver(at), 8);
        Due.is("number 1", x.run(5, 1), 1);
        Due.is("the next round", x.run(5, 2), ballot + 27);
        Due.is("decided", x.decided(5, 0), 0);
        Due.is("its twin does nothing", x.deliver(Steps.find(x, 5, 5)), 0);
        Due.is("still number 1", x.run(5, 1), 1);

        TripleHouse y = new TripleHouse();
        Steps.start(y, 4, 0, 0, 0);
        Steps.deliverFirst(y, 24);
        Steps.loseAll(y);
        Due.is("4 is settling", y.run(4, 0), 2);
        Steps.settle(y, 5, 0, 0, 0);
        Due.is("5 settled 4's draft", y.decided(5, 0), 0);
        y.spread(5);
        Due.is("a TELL of its own draft", y.deliver(Steps.find(y, 5, 4)), 0);
        Due.is("ends the run", y.run(4, 0), 0);
        Due.is("decided", y.decided(4, 0), 0);
    }

    private static void tellOfAnotherNumber() {
        TripleHouse x = new TripleHouse();
        Steps.settle(x, 4, 0, 0, 0);
        Steps.settle(x, 4, 0, 0, 1);
        Steps.start(x, 5, 0, 0, 2);
        x.spread(4);
        int at = Steps.find(x, 5, 5);
        Due.is("number 0 first", x.letter(at, 4), 0);
        int second = at + 6;
        Due.is("to 5", x.letter(second, 2), 5);
        Due.is("number 1 leaves the run alone", x.deliver(second), 0);
        Due.is("number 0", x.run(5, 1), 0);
        Due.is("known", x.decided(5, 1), 1);
        Due.is("but for the gap", x.complete(5), 0);
        Due.is("number 0", x.deliver(at), 8);
        Due.is("the least that it does not know", x.run(5, 1), 2);
        Due.is("complete", x.complete(5), 2);
    }

    private static void lastNumberEndsTheRun() {
        TripleHouse x = new TripleHouse();
        for (int n = 0; n < 6; n++) {
            Steps.settle(x, 4, 0, 0, n);
        }
        x.spread(4);
        for (int n = 0; n < 5; n++) {
            x.deliver(Steps.find(x, 5, 5));
        }
        int at = Steps.find(x, 5, 5);
        Due.is("the TELL of number 5 waits", x.letter(at, 4), 5);
        Steps.open(x, 5, 0, 0, 9);
        Due.is("propose for number 5", x.propose(5), 5);
        Due.is("no number is left", x.deliver(at), 0);
        Due.is("ended", x.run(5, 0), 0);
        Due.is("complete", x.complete(5), 6);
        Due.is("promised as before", x.promised(5) % 27, 5);
    }

    private static void failedOfficeHearsNothing() {
        TripleHouse x = new TripleHouse();
        Steps.start(x, 0, 0, 0, 0);
        x.crash(1);
        Due.is("an ASK to a failed office", x.deliver(1), 0);
        Due.is("is taken out", x.letters(), 7);
        Due.is("and changes nothing", x.promised(1), 0);
        x.restart(1);
        x.resend(0);
        Due.is("behind its return", x.deliver(Steps.find(x, 0, 1)), 1);
        Due.is("it promises", x.promised(1), 27);
        x.crash(0);
        Due.is("a GIVE to a failed office", x.deliver(Steps.find(x, 1, 0)), 0);
        Due.is("letters of a failed office still go", x.deliver(Steps.find(x, 0, 3)), 1);
        Due.is("3 promised", x.promised(3), 27);
    }

    private static void deliverRefused() {
        TripleHouse x = new TripleHouse();
        Due.fails("no letters", () -> x.deliver(0), Due.OUT_OF_BOUNDS);
        Steps.start(x, 0, 0, 0, 0);
        Due.fails("i = -1", () -> x.deliver(-1), Due.OUT_OF_BOUNDS);
        Due.fails("i = 8", () -> x.deliver(8), Due.OUT_OF_BOUNDS);
        Due.fails("far above", () -> x.deliver(Integer.MAX_VALUE), Due.OUT_OF_BOUNDS);
        Due.is("all still wait", x.letters(), 8);
    }

    private static void lose() {
        TripleHouse x = new TripleHouse();
        Due.no("no letters", x.lose(0));
        Steps.start(x, 0, 0, 0, 0);
        Due.no("i = -1", x.lose(-1));
        Due.no("i = 8", x.lose(8));
        Due.yes("the last one", x.lose(7));
        Due.yes("one between", x.lose(2));
        Due.is("letters", x.letters(), 6);
        int[] left = {0, 1, 4, 9, 10, 12};
        for (int i = 0; i < 6; i++) {
            Due.is("to", x.letter(i, 2), left[i]);
        }
        Due.is("3 never heard of it", x.promised(3), 0);
    }

    private static void twin() {
        TripleHouse x = new TripleHouse();
        Due.no("no letters", x.twin(0));
        Steps.start(x, 0, 0, 0, 0);
        Due.no("i = -1", x.twin(-1));
        Due.no("i = 8", x.twin(8));
        Due.yes("twin(3)", x.twin(3));
        Due.is("letters", x.letters(), 9);
        checkLetter(x, 8, 0, 0, 4, 27, 0, -1);
        checkLetter(x, 3, 0, 0, 4, 27, 0, -1);
        Due.is("deliver one", x.deliver(3), 1);
        Due.is("deliver the other", x.deliver(7), 1);
        Due.is("two GIVEs", x.letters(), 9);
        Due.is("both from 4", x.letter(7, 1), 4);
        Due.is("both from 4", x.letter(8, 1), 4);
        twinBringsTheSame();
        twinsOfOtherKinds();
    }

    private static void twinsOfOtherKinds() {
        TripleHouse x = new TripleHouse();
        x.draft(0, 0);
        Steps.start(x, 0, 0, 0, 0);
        Steps.deliverFirst(x, 16);
        x.twin(2);
        checkLetter(x, 8, 3, 0, 3, 27, 0, 1);
        Steps.deliverFirst(x, 2);
        x.twin(x.letters() - 1);
        checkLetter(x, x.letters() - 1, 4, 1, 0, 27, 0, -1);
        Steps.deliverAll(x);
        x.spread(0);
        x.twin(1);
        checkLetter(x, 6, 5, 0, 2, 0, 0, 1);
        Steps.loseAll(x);
        Steps.start(x, 25, 0, 0, 0);
        x.deliver(Steps.find(x, 0, 1));
        Steps.loseAll(x);
        Steps.start(x, 2, 0, 0, 0);
        x.silent(2, 2);
        x.deliver(Steps.find(x, 0, 1));
        x.twin(x.letters() - 1);
        checkLetter(x, x.letters() - 1, 2, 1, 2, 29, -1, 52);
    }

    private static void twinBringsTheSame() {
        TripleHouse x = new TripleHouse();
        Steps.start(x, 0, 0, 0, 0);
        Steps.deliverFirst(x, 24);
        Steps.loseAll(x);
        Steps.start(x, 1, 0, 0, 0);
        Steps.deliverFirst(x, 8);
        for (int i = 0; i < 8; i++) {
            x.twin(i);
        }
        for (int i = 0; i < 8; i++) {
            x.lose(0);
        }
        Steps.deliverFirst(x, 8);
        Due.is("settling", x.run(1, 0), 2);
        Due.is("the draft that the twins brought", x.letter(0, 5), 0);
    }

    private static void fullRow() {
        TripleHouse x = new TripleHouse();
        Steps.start(x, 0, 0, 0, 0);
        Steps.fillTo(x, 149);
        Due.yes("the 150th", x.twin(0));
        Due.is("letters", x.letters(), 150);
        Due.no("the 151st", x.twin(0));
        Due.is("letters", x.letters(), 150);
        Due.is("an answer has room", x.deliver(0), 1);
        Due.is("letters", x.letters(), 150);
        Due.is("it is the last", x.letter(149, 0), 1);
        Steps.open(x, 26, 0, 0, 0);
        Due.is("propose with lost letters", x.propose(26), 0);
        Due.is("asked all the same", Integer.bitCount(x.asked(26, true)), 8);
        Due.is("letters", x.letters(), 150);
        Due.is("lost", x.letter(149, 1), 0);
        Due.is("silent with lost letters", x.silent(26, 26), 1);
        Due.is("resend with lost letters", x.resend(26), 8);
        x.lose(149);
        x.lose(148);
        x.lose(147);
        Due.is("resend with some lost", x.resend(26), 8);
        Due.is("letters", x.letters(), 150);
        Due.is("the first three go", x.letter(149, 2), 6);
        fullRowWhenDelivering();
    }

    /** A GIVE that makes a quorum frees one place: one SETTLE goes, and seven are lost. */
    private static void fullRowWhenDelivering() {
        TripleHouse x = new TripleHouse();
        Steps.start(x, 0, 0, 0, 0);
        Steps.deliverFirst(x, 15);
        Due.is("one GIVE waits", x.letters(), 1);
        Steps.fillTo(x, 150);
        Due.is("eight sent, seven of them lost", x.deliver(0), 8);
        Due.is("letters", x.letters(), 150);
        checkLetter(x, 149, 3, 0, 0, 27, 0, 0);
        Due.is("settling", x.run(0, 0), 2);
        Due.is("asked", Integer.bitCount(x.asked(0, true)), 8);
    }
}
