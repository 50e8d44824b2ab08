/** Promises 13, 14 and 19 to 22: failing, coming back, and what an office keeps. */
public final class OfficesTest {
    public static void main(String[] args) {
        crashAndRestart();
        whatIsKept();
        promised();
        accepted();
        decidedAndComplete();
        settledNeverChanges();
        Due.end();
    }

    private static void crashAndRestart() {
        TripleHouse x = new TripleHouse();
        Due.no("crash(-1)", x.crash(-1));
        Due.no("crash(27)", x.crash(27));
        Due.no("restart(-1)", x.restart(-1));
        Due.no("restart(27)", x.restart(27));
        Due.no("restart of one that is there", x.restart(26));
        Due.yes("crash(26)", x.crash(26));
        Due.no("crash(26) again", x.crash(26));
        Due.yes("restart(26)", x.restart(26));
        Due.no("restart(26) again", x.restart(26));
        Due.yes("crash(0)", x.crash(0));
        Due.yes("crash(1)", x.crash(1));
        Due.yes("restart(0)", x.restart(0));
        Due.is("1 is still away", x.draft(1, 0), -1);
        Due.is("0 is back", x.draft(0, 0), 0);
    }

    private static void whatIsKept() {
        TripleHouse x = new TripleHouse();
        Steps.settle(x, 4, 0, 3, 77);
        Steps.start(x, 4, 0, 0, 0);
        Steps.open(x, 4, 1, 1, 1);
        int promised = x.promised(4);
        x.crash(4);
        for (int k = 0; k < 2; k++) {
            Due.is("promised is kept", x.promised(4), promised);
            Due.is("accepted is kept", x.accepted(4, 0), 31);
            Due.is("decided is kept", x.decided(4, 0), 0);
            Due.is("complete is kept", x.complete(4), 1);
            Due.is("rate is kept", x.rate(4, 3, 0, 1), 77);
            Due.is("the run is gone", x.run(4, 0), 0);
            Due.no("the open draft is gone", x.line(4, 5, 5));
            x.restart(4);
        }
        Due.is("letters of the run still wait", x.letters(), 8);
        Steps.deliverFirst(x, 8);
        Due.is("GIVEs for a run that is gone", x.deliver(0), 0);
        Due.is("no run", x.run(4, 0), 0);
        Due.is("a new draft", x.draft(4, 0), 3);
    }

    private static void promised() {
        TripleHouse x = new TripleHouse();
        Due.is("promised(-1)", x.promised(-1), -1);
        Due.is("promised(27)", x.promised(27), -1);
        Steps.start(x, 26, 0, 0, 0);
        Due.is("its own ballot", x.promised(26), 53);
        Due.is("nobody else yet", x.promised(0), 0);
        x.deliver(0);
        Due.is("by an ASK", x.promised(0), 53);
        Steps.start(x, 1, 0, 0, 0);
        x.deliver(Steps.find(x, 0, 1));
        int at = x.letters() - 1;
        Due.is("1 gives to itself", x.letter(at, 0), 1);
        for (int i = 0; i < x.letters(); i++) {
            if (x.letter(i, 0) == 0 && x.letter(i, 1) == 1 && x.letter(i, 2) == 5) {
                x.deliver(i);
            }
        }
        Due.is("5 promised the lower ballot", x.promised(5), 28);
        Due.is("0 keeps the greater one", x.promised(0), 53);
    }

    private static void accepted() {
        TripleHouse x = new TripleHouse();
        Due.is("accepted(-1, 0)", x.accepted(-1, 0), -1);
        Due.is("accepted(27, 0)", x.accepted(27, 0), -1);
        Due.is("accepted(0, -1)", x.accepted(0, -1), -1);
        Due.is("accepted(0, 6)", x.accepted(0, 6), -1);
        Due.is("accepted(0, 5)", x.accepted(0, 5), 0);
        Steps.settle(x, 0, 0, 0, 0);
        Steps.settle(x, 0, 0, 0, 0);
        int[] choice = {0, 1, 3, 4, 9, 10, 12, 13};
        for (int o : choice) {
            Due.is("number 0", x.accepted(o, 0), 27);
            Due.is("number 1", x.accepted(o, 1), 54);
            Due.is("number 2", x.accepted(o, 2), 0);
        }
        Due.is("not asked", x.accepted(2, 0), 0);
        Steps.start(x, 1, 0, 0, 0);
        Steps.deliverAll(x);
        Due.is("a settled draft is accepted again", x.accepted(1, 0), 82);
        Due.is("and known", x.decided(1, 0), 0);
        settlePromisesToo();
    }

    /** Office 14 got no ASK, only a SETTLE: it promises by that. */
    private static void settlePromisesToo() {
        TripleHouse x = new TripleHouse();
        Steps.start(x, 0, 0, 0, 0);
        Steps.deliverFirst(x, 16);
        x.silent(0, 13);
        int at = Steps.find(x, 3, 14);
        Due.is("SETTLE to 14", x.deliver(at), 1);
        Due.is("promised", x.promised(14), 27);
        Due.is("accepted", x.accepted(14, 0), 27);
    }

    private static void decidedAndComplete() {
        TripleHouse x = new TripleHouse();
        Due.is("decided(-1, 0)", x.decided(-1, 0), -1);
        Due.is("decided(27, 0)", x.decided(27, 0), -1);
        Due.is("decided(0, -1)", x.decided(0, -1), -1);
        Due.is("decided(0, 6)", x.decided(0, 6), -1);
        Due.is("complete(-1)", x.complete(-1), -1);
        Due.is("complete(27)", x.complete(27), -1);
        for (int n = 0; n < 6; n++) {
            Due.is("complete", x.complete(7), n);
            Due.is("not decided yet", x.decided(7, n), -1);
            x.draft(7, 0);
            Steps.settle(x, 7, 0, 0, n);
            Due.is("decided", x.decided(7, n), 2 * n + 1);
        }
        Due.is("complete", x.complete(7), 6);
        Due.is("another office", x.complete(8), 0);
        Steps.tell(x, 7, 8);
        Due.is("told", x.complete(8), 6);
        Due.is("told number 5", x.decided(8, 5), 11);
    }

    /** What 26 settled under number 0 in spite of a rival, the rival settles there, too. */
    private static void settledNeverChanges() {
        TripleHouse x = new TripleHouse();
        Steps.start(x, 0, 0, 0, 0);
        Steps.deliverFirst(x, 8);
        Steps.start(x, 26, 0, 0, 0);
        Steps.deliverFirst(x, 12);
        x.crash(0);
        x.restart(0);
        x.resend(26);
        Steps.deliverAll(x);
        int settled = x.decided(26, 0);
        Due.yes("26 knows number 0", settled != -1);
        Due.is("26 has ended", x.run(26, 0), 0);
        Steps.settle(x, 0, 0, 0, 0);
        Due.is("0 settles the same", x.decided(0, 0), settled);
        Due.is("and its own behind that", x.decided(0, 1), 2);
        Due.is("26 still knows the same", x.decided(26, 0), settled);
    }
}
