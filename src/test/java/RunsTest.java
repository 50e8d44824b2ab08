/** Promises 4 to 7, 17 and 18: runs, who is silent, sending again, and spreading. */
public final class RunsTest {
    public static void main(String[] args) {
        proposeBegins();
        proposeRefused();
        proposeAfterAll();
        nextRoundAfterPromise();
        choiceAtTheEdges();
        silentWhileAsking();
        silentWhileSettling();
        silentStaysWhenBegunAnew();
        silentForgottenByTheNextRun();
        silentRefused();
        noChoiceLeft();
        resend();
        resendRefused();
        spread();
        spreadRefused();
        runAndAskedOfNone();
        Due.end();
    }

    private static void proposeBegins() {
        TripleHouse x = new TripleHouse();
        Steps.open(x, 12, 5, 1, 1);
        Due.is("propose(12)", x.propose(12), 0);
        Due.is("phase", x.run(12, 0), 1);
        Due.is("number", x.run(12, 1), 0);
        Due.is("ballot", x.run(12, 2), 27 + 12);
        Due.is("own draft", x.run(12, 3), 0);
        Due.is("promised at once", x.promised(12), 39);
        int choice = Steps.set(12, 13, 15, 16, 21, 22, 24, 25);
        Due.is("asked", x.asked(12, true), choice);
        Due.is("answered", x.asked(12, false), 0);
        Due.is("letters", x.letters(), 8);
        int[] order = {12, 13, 15, 16, 21, 22, 24, 25};
        for (int i = 0; i < 8; i++) {
            Due.is("kind", x.letter(i, 0), 0);
            Due.is("from", x.letter(i, 1), 12);
            Due.is("to", x.letter(i, 2), order[i]);
            Due.is("ballot", x.letter(i, 3), 39);
            Due.is("number", x.letter(i, 4), 0);
            Due.is("draft", x.letter(i, 5), -1);
        }
        Steps.deliverAll(x);
        Due.is("the run has ended", x.run(12, 0), 0);
        Steps.open(x, 12, 6, 1, 1);
        Due.is("the next number", x.propose(12), 1);
        Due.is("the next round", x.run(12, 2), 2 * 27 + 12);
    }

    private static void proposeRefused() {
        TripleHouse x = new TripleHouse();
        Due.fails("propose(-1)", () -> x.propose(-1), Due.ILLEGAL_ARGUMENT);
        Due.fails("propose(27)", () -> x.propose(27), Due.ILLEGAL_ARGUMENT);
        Due.fails("no draft", () -> x.propose(0), Due.ILLEGAL_ARGUMENT);
        x.draft(0, 0);
        Due.fails("no lines", () -> x.propose(0), Due.ILLEGAL_ARGUMENT);
        x.line(0, 0, 0);
        Due.is("propose(0)", x.propose(0), 0);
        Due.fails("proposed already", () -> x.propose(0), Due.ILLEGAL_ARGUMENT);
        x.draft(0, 0);
        Due.fails("no lines, and a run", () -> x.propose(0), Due.ILLEGAL_ARGUMENT);
        x.line(0, 1, 1);
        Due.fails("a run is on", () -> x.propose(0), Due.ILLEGAL_STATE);
        Due.is("nothing was sent", x.letters(), 8);
        Due.is("the run is as it was", x.run(0, 2), 27);
        Due.yes("the draft is still open", x.line(0, 2, 2));
        x.crash(0);
        Due.fails("failed, thus without a draft", () -> x.propose(0), Due.ILLEGAL_ARGUMENT);
        x.restart(0);
        Due.fails("its draft is gone", () -> x.propose(0), Due.ILLEGAL_ARGUMENT);
        Steps.open(x, 0, 0, 0, 0);
        Due.is("without its run it may propose", x.propose(0), 0);
        Due.is("its promise was kept", x.run(0, 2), 2 * 27);
    }

    private static void proposeAfterAll() {
        TripleHouse x = new TripleHouse();
        for (int n = 0; n < 6; n++) {
            Steps.open(x, 8, n, n, n);
            Due.is("number", x.propose(8), n);
            Steps.deliverAll(x);
        }
        Due.is("complete(8)", x.complete(8), 6);
        Steps.open(x, 8, 9, 9, 9);
        Due.fails("all numbers decided", () -> x.propose(8), Due.ILLEGAL_STATE);
        x.draft(8, 9);
        Due.fails("no lines goes first", () -> x.propose(8), Due.ILLEGAL_ARGUMENT);
    }

    private static void nextRoundAfterPromise() {
        TripleHouse x = new TripleHouse();
        Steps.start(x, 26, 0, 0, 0);
        x.deliver(Steps.find(x, 0, 0));
        Due.is("office 0 promised to 26", x.promised(0), 53);
        Steps.open(x, 0, 0, 0, 0);
        x.propose(0);
        Due.is("the round after 53's", x.run(0, 2), 2 * 27);
    }

    private static void choiceAtTheEdges() {
        TripleHouse x = new TripleHouse();
        Steps.start(x, 26, 0, 0, 0);
        Due.is("choice of 26", x.asked(26, true), Steps.set(26, 24, 20, 18, 8, 6, 2, 0));
        Steps.start(x, 0, 0, 0, 0);
        Due.is("choice of 0", x.asked(0, true), Steps.set(0, 1, 3, 4, 9, 10, 12, 13));
        Steps.start(x, 16, 0, 0, 0);
        Due.is("choice of 16", x.asked(16, true), Steps.set(16, 17, 10, 11, 25, 26, 19, 20));
    }

    private static void silentWhileAsking() {
        TripleHouse x = new TripleHouse();
        Steps.start(x, 0, 0, 0, 0);
        Steps.deliverFirst(x, 8);
        x.deliver(0);
        Due.is("office 0 answered", x.asked(0, false), 1);
        Due.is("silent(0, 1)", x.silent(0, 1), 1);
        Due.is("asked", x.asked(0, true), Steps.set(0, 2, 3, 4, 9, 10, 12, 13));
        Due.is("answered stays", x.asked(0, false), 1);
        int at = x.letters() - 1;
        Due.is("kind", x.letter(at, 0), 0);
        Due.is("to", x.letter(at, 2), 2);
        Due.is("ballot", x.letter(at, 3), 27);
        Due.is("one not in the choice", x.silent(0, 26), 0);
        Due.is("itself: district 0 is lost, so 2 and 0 go", x.silent(0, 0), 2);
        Due.is("asked without district 0", x.asked(0, true), Steps.set(3, 4, 6, 7, 9, 10, 12, 13));
        Due.is("letters in order", x.letter(x.letters() - 2, 2), 6);
        Due.is("letters in order", x.letter(x.letters() - 1, 2), 7);
        Due.is("a region is lost", x.silent(0, 3), 1);
        Due.is("asked", x.asked(0, true), Steps.set(4, 5, 6, 7, 9, 10, 12, 13));
        Due.is("the next region", x.silent(0, 4), 4);
        Due.is("asked", x.asked(0, true), Steps.set(9, 10, 12, 13, 18, 19, 21, 22));
        Due.is("answered stays", x.asked(0, false), 1);
    }

    private static void silentWhileSettling() {
        TripleHouse x = new TripleHouse();
        Steps.start(x, 0, 0, 0, 0);
        Steps.deliverFirst(x, 16);
        Due.is("settling", x.run(0, 0), 2);
        Steps.deliverFirst(x, 8);
        Steps.deliverFirst(x, 7);
        x.lose(0);
        Due.is("all but 13 took", x.asked(0, false), Steps.set(0, 1, 3, 4, 9, 10, 12));
        Due.is("silent(0, 13)", x.silent(0, 13), 1);
        Due.is("answered stays", x.asked(0, false), Steps.set(0, 1, 3, 4, 9, 10, 12));
        Due.is("kind", x.letter(0, 0), 3);
        Due.is("to", x.letter(0, 2), 14);
        Due.is("draft", x.letter(0, 5), 0);
        x.deliver(0);
        Due.is("not decided yet", x.decided(0, 0), -1);
        x.deliver(0);
        Due.is("decided", x.decided(0, 0), 0);
    }

    private static void silentStaysWhenBegunAnew() {
        TripleHouse x = new TripleHouse();
        Steps.start(x, 26, 0, 0, 0);
        Steps.deliverFirst(x, 8);
        Steps.loseAll(x);
        Steps.start(x, 1, 0, 0, 0);
        x.silent(1, 2);
        int choice = Steps.set(1, 0, 4, 5, 10, 11, 13, 14);
        Due.is("asked", x.asked(1, true), choice);
        x.deliver(Steps.find(x, 0, 0));
        Due.is("a NO begins it anew", x.deliver(Steps.find(x, 2, 1)), 8);
        Due.is("the round behind the NO's", x.run(1, 2), 2 * 27 + 1);
        Due.is("2 is still silent", x.asked(1, true), choice);
        Due.fails("2 is silent already", () -> x.silent(1, 2), Due.ILLEGAL_STATE);
    }

    private static void silentForgottenByTheNextRun() {
        TripleHouse x = new TripleHouse();
        Steps.start(x, 0, 0, 0, 0);
        x.silent(0, 1);
        Steps.deliverAll(x);
        Due.is("ended", x.run(0, 0), 0);
        Steps.start(x, 0, 0, 0, 0);
        Due.is("nobody is silent", x.asked(0, true), Steps.set(0, 1, 3, 4, 9, 10, 12, 13));
        Due.is("silent once more", x.silent(0, 1), 1);
    }

    private static void silentRefused() {
        TripleHouse x = new TripleHouse();
        Due.fails("no run", () -> x.silent(0, 1), Due.ILLEGAL_STATE);
        Due.fails("o = -1", () -> x.silent(-1, 1), Due.ILLEGAL_ARGUMENT);
        Due.fails("o = 27", () -> x.silent(27, 1), Due.ILLEGAL_ARGUMENT);
        Due.fails("p = -1, no run", () -> x.silent(0, -1), Due.ILLEGAL_ARGUMENT);
        Due.fails("p = 27, no run", () -> x.silent(0, 27), Due.ILLEGAL_ARGUMENT);
        Steps.start(x, 0, 0, 0, 0);
        x.silent(0, 26);
        Due.fails("silent already", () -> x.silent(0, 26), Due.ILLEGAL_STATE);
        x.crash(0);
        Due.fails("failed", () -> x.silent(0, 1), Due.ILLEGAL_STATE);
        x.restart(0);
        Due.fails("no run any more", () -> x.silent(0, 1), Due.ILLEGAL_STATE);
    }

    private static void noChoiceLeft() {
        TripleHouse x = new TripleHouse();
        Steps.start(x, 0, 0, 0, 0);
        int[] first = {18, 19, 21, 22, 9, 10, 12};
        for (int p : first) {
            x.silent(0, p);
        }
        int waiting = x.letters();
        int asked = x.asked(0, true);
        Due.is("the last choice", asked, Steps.set(0, 1, 3, 4, 13, 14, 15, 16));
        Due.fails("there would be no choice", () -> x.silent(0, 13), Due.ILLEGAL_STATE);
        Due.is("nothing sent", x.letters(), waiting);
        Due.is("asked as before", x.asked(0, true), asked);
        Due.fails("13 is not silent, but again no choice", () -> x.silent(0, 13), Due.ILLEGAL_STATE);
        Due.is("another one can be", x.silent(0, 15), 1);
        Due.is("asked", x.asked(0, true), Steps.set(0, 1, 3, 4, 13, 14, 16, 17));
    }

    private static void resend() {
        TripleHouse x = new TripleHouse();
        Steps.start(x, 0, 0, 0, 0);
        Steps.deliverFirst(x, 8);
        Steps.deliverFirst(x, 3);
        Steps.loseAll(x);
        Due.is("resend(0)", x.resend(0), 5);
        Due.is("letters", x.letters(), 5);
        int[] order = {4, 9, 10, 12, 13};
        for (int i = 0; i < 5; i++) {
            Due.is("kind", x.letter(i, 0), 0);
            Due.is("to", x.letter(i, 2), order[i]);
            Due.is("ballot", x.letter(i, 3), 27);
            Due.is("number", x.letter(i, 4), 0);
        }
        Steps.deliverFirst(x, 10);
        Due.is("settling", x.run(0, 0), 2);
        Steps.deliverFirst(x, 1);
        x.deliver(x.letters() - 1);
        Steps.loseAll(x);
        Due.is("resend(0) while settling", x.resend(0), 7);
        Due.is("kind", x.letter(0, 0), 3);
        Due.is("to", x.letter(0, 2), 1);
        Due.is("draft", x.letter(0, 5), 0);
        Due.is("resend(0) twice", x.resend(0), 7);
        Due.is("letters", x.letters(), 14);
        Steps.fillTo(x, 148);
        Due.is("lost ones count, too", x.resend(0), 7);
        Due.is("150 wait", x.letters(), 150);
    }

    private static void resendRefused() {
        TripleHouse x = new TripleHouse();
        Due.fails("o = -1", () -> x.resend(-1), Due.ILLEGAL_ARGUMENT);
        Due.fails("o = 27", () -> x.resend(27), Due.ILLEGAL_ARGUMENT);
        Due.fails("no run", () -> x.resend(0), Due.ILLEGAL_STATE);
        Steps.start(x, 0, 0, 0, 0);
        x.crash(0);
        Due.fails("failed", () -> x.resend(0), Due.ILLEGAL_STATE);
        x.restart(0);
        Due.fails("the run is gone", () -> x.resend(0), Due.ILLEGAL_STATE);
        Due.is("nothing sent", x.letters(), 8);
    }

    private static void spread() {
        TripleHouse x = new TripleHouse();
        Due.is("knows nothing", x.spread(13), 0);
        Steps.settle(x, 13, 0, 0, 1);
        Steps.settle(x, 13, 0, 0, 2);
        Due.is("spread(13)", x.spread(13), 12);
        int[] order = {4, 10, 12, 14, 16, 22};
        for (int i = 0; i < 12; i++) {
            Due.is("kind", x.letter(i, 0), 5);
            Due.is("from", x.letter(i, 1), 13);
            Due.is("to", x.letter(i, 2), order[i % 6]);
            Due.is("ballot", x.letter(i, 3), 0);
            Due.is("number", x.letter(i, 4), i / 6);
            Due.is("draft", x.letter(i, 5), i / 6);
        }
        x.deliver(11);
        Due.is("22 knows number 1", x.decided(22, 1), 1);
        Due.is("22 does not know number 0", x.decided(22, 0), -1);
        Steps.loseAll(x);
        Due.is("only what it knows", x.spread(22), 6);
        Due.is("number 1", x.letter(0, 4), 1);
        int[] around = {4, 13, 19, 21, 23, 25};
        for (int i = 0; i < 6; i++) {
            Due.is("to", x.letter(i, 2), around[i]);
        }
        Steps.fillTo(x, 145);
        Due.is("lost ones count, too", x.spread(13), 12);
        Due.is("150 wait", x.letters(), 150);
    }

    private static void spreadRefused() {
        TripleHouse x = new TripleHouse();
        Due.fails("o = -1", () -> x.spread(-1), Due.ILLEGAL_ARGUMENT);
        Due.fails("o = 27", () -> x.spread(27), Due.ILLEGAL_ARGUMENT);
        Steps.settle(x, 13, 0, 0, 1);
        x.crash(13);
        Due.fails("failed", () -> x.spread(13), Due.ILLEGAL_STATE);
        Due.is("nothing sent", x.letters(), 0);
        x.restart(13);
        Due.is("it kept what it knows", x.spread(13), 6);
    }

    private static void runAndAskedOfNone() {
        TripleHouse x = new TripleHouse();
        Due.is("asked(-1)", x.asked(-1, true), 0);
        Due.is("asked(27)", x.asked(27, false), 0);
        Due.is("no run: asked", x.asked(0, true), 0);
        Due.is("no run: phase", x.run(0, 0), 0);
        for (int what = 1; what < 5; what++) {
            Due.is("no run: what " + what, x.run(0, what), -1);
        }
        for (int what = -1; what < 5; what++) {
            Due.is("no office -1: what " + what, x.run(-1, what), -1);
            Due.is("no office 27: what " + what, x.run(27, what), -1);
        }
        Steps.start(x, 3, 0, 0, 0);
        Due.is("no such what -1", x.run(3, -1), -1);
        Due.is("no such what 4", x.run(3, 4), -1);
        Due.is("phase", x.run(3, 0), 1);
        x.crash(3);
        Due.is("phase when failed", x.run(3, 0), 0);
        Due.is("ballot when failed", x.run(3, 2), -1);
        Due.is("asked when failed", x.asked(3, true), 0);
        Steps.settle(x, 4, 0, 0, 0);
        Due.is("ended: answered", x.asked(4, false), 0);
        Due.is("ended: own draft", x.run(4, 3), -1);
    }
}
