/** Far-off arguments, in several states: only the exceptions of the document, and no change. */
public final class WrongInputsTest {
    private static final int[] FAR = {Integer.MIN_VALUE, -28, -1, 27, 150, 1000, 1 << 27, Integer.MAX_VALUE};

    public static void main(String[] args) {
        TripleHouse fresh = new TripleHouse();
        farOff("new", fresh);
        TripleHouse asking = new TripleHouse();
        Steps.start(asking, 0, 0, 0, 0);
        farOff("asking", asking);
        TripleHouse full = new TripleHouse();
        Steps.settle(full, 0, 0, 0, 0);
        Steps.start(full, 0, 0, 0, 0);
        Steps.fillTo(full, 150);
        farOff("full", full);
        Due.end();
    }

    private static void farOff(String state, TripleHouse x) {
        int waiting = x.letters();
        int phase = x.run(0, 0);
        for (int far : FAR) {
            String at = state + ", " + far + ": ";
            officeCalls(at, x, far);
            letterCalls(at, x, far);
        }
        Due.is(state + ": letters wait as before", x.letters(), waiting);
        Due.is(state + ": the run is as before", x.run(0, 0), phase);
    }

    private static void officeCalls(String at, TripleHouse x, int far) {
        Due.is(at + "draft", x.draft(far, 0), -1);
        Due.no(at + "line", x.line(far, 0, 0));
        Due.no(at + "line's code", x.line(0, far, 0));
        Due.fails(at + "propose", () -> x.propose(far), Due.ILLEGAL_ARGUMENT);
        Due.fails(at + "silent", () -> x.silent(far, 0), Due.ILLEGAL_ARGUMENT);
        Due.fails(at + "silent's other", () -> x.silent(0, far), Due.ILLEGAL_ARGUMENT);
        Due.fails(at + "resend", () -> x.resend(far), Due.ILLEGAL_ARGUMENT);
        Due.fails(at + "spread", () -> x.spread(far), Due.ILLEGAL_ARGUMENT);
        Due.no(at + "crash", x.crash(far));
        Due.no(at + "restart", x.restart(far));
        Due.is(at + "asked", x.asked(far, true), 0);
        Due.is(at + "run", x.run(far, 1), -1);
        Due.is(at + "run's what", x.run(0, far), -1);
        Due.is(at + "promised", x.promised(far), -1);
        Due.is(at + "accepted", x.accepted(far, 0), -1);
        Due.is(at + "accepted's number", x.accepted(0, far), -1);
        Due.is(at + "decided", x.decided(far, 0), -1);
        Due.is(at + "decided's number", x.decided(0, far), -1);
        Due.is(at + "complete", x.complete(far), -1);
        Due.is(at + "rate", x.rate(far, 0, 0, 0), -1);
        Due.is(at + "rate's code", x.rate(0, far, 0, 0), -1);
        Due.is(at + "rate's n", x.rate(0, 0, 0, far), -1);
    }

    private static void letterCalls(String at, TripleHouse x, int far) {
        Due.fails(at + "letter's what", () -> x.letter(0, far), Due.OUT_OF_BOUNDS);
        if (far < 0 || far >= x.letters()) {
            Due.fails(at + "letter", () -> x.letter(far, 0), Due.OUT_OF_BOUNDS);
            Due.fails(at + "deliver", () -> x.deliver(far), Due.OUT_OF_BOUNDS);
            Due.no(at + "lose", x.lose(far));
            Due.no(at + "twin", x.twin(far));
        }
    }
}
