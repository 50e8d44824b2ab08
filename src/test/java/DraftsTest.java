/** Promises 1, 2, 3 and 23: a new object, drafts, their lines, and what they cost. */
public final class DraftsTest {
    public static void main(String[] args) {
        newObject();
        draftNumbers();
        draftRefused();
        fortyDrafts();
        lines();
        linesRefused();
        rateByDayAndNumber();
        rateRefused();
        rateWithGap();
        Due.end();
    }

    private static void newObject() {
        TripleHouse x = new TripleHouse();
        Due.is("NONE", TripleHouse.NONE, -1);
        Due.is("letters()", x.letters(), 0);
        for (int o = 0; o < 27; o++) {
            Due.is("new promised", x.promised(o), 0);
            Due.is("new run phase", x.run(o, 0), 0);
            Due.is("new run number", x.run(o, 1), -1);
            Due.is("new asked", x.asked(o, true), 0);
            Due.is("new complete", x.complete(o), 0);
            Due.no("new restart", x.restart(o));
            for (int n = 0; n < 6; n++) {
                Due.is("new accepted", x.accepted(o, n), 0);
                Due.is("new decided", x.decided(o, n), -1);
            }
        }
        Due.is("first draft", x.draft(26, 999), 0);
    }

    private static void draftNumbers() {
        TripleHouse x = new TripleHouse();
        Due.is("draft(0, 0)", x.draft(0, 0), 0);
        Due.is("draft(26, 999)", x.draft(26, 999), 1);
        x.line(0, 1, 5);
        Due.is("a draft in place of another", x.draft(0, 7), 2);
        Due.fails("propose behind a fresh draft", () -> x.propose(0), Due.ILLEGAL_ARGUMENT);
        Due.yes("the fresh draft has no lines", x.line(0, 1, 6));
        Due.is("propose(0)", x.propose(0), 0);
        Due.is("the run's own draft", x.run(0, 3), 2);
        Due.is("draft while a run is on", x.draft(0, 8), 3);
        Due.is("the run keeps its draft", x.run(0, 3), 2);
    }

    private static void draftRefused() {
        TripleHouse x = new TripleHouse();
        Due.is("draft(-1, 0)", x.draft(-1, 0), -1);
        Due.is("draft(27, 0)", x.draft(27, 0), -1);
        Due.is("draft(0, -1)", x.draft(0, -1), -1);
        Due.is("draft(0, 1000)", x.draft(0, 1000), -1);
        x.crash(3);
        Due.is("draft of a failed office", x.draft(3, 0), -1);
        x.restart(3);
        Due.is("refused drafts have no number", x.draft(3, 0), 0);
    }

    private static void fortyDrafts() {
        TripleHouse x = new TripleHouse();
        for (int k = 0; k < 39; k++) {
            Due.is("draft " + k, x.draft(k % 26, k), k);
        }
        Due.is("draft 39", x.draft(26, 39), 39);
        Due.yes("line", x.line(26, 2, 11));
        Due.is("draft 40", x.draft(26, 40), -1);
        Due.is("a refused draft takes no place", x.propose(26), 0);
        Due.is("own draft", x.run(26, 3), 39);
        Due.is("draft of another office", x.draft(0, 1), -1);
    }

    private static void lines() {
        TripleHouse x = new TripleHouse();
        x.draft(5, 20);
        Due.yes("line(5, 0, 0)", x.line(5, 0, 0));
        Due.yes("line(5, 9, 9999)", x.line(5, 9, 9999));
        Due.no("the code is there", x.line(5, 9, 1));
        Due.yes("third line", x.line(5, 4, 44));
        Due.yes("fourth line", x.line(5, 5, 55));
        Due.no("fifth line", x.line(5, 6, 66));
        x.propose(5);
        Due.no("the draft is proposed", x.line(5, 6, 66));
        Steps.deliverAll(x);
        Due.is("rate of code 0", x.rate(5, 0, 20, 1), 0);
        Due.is("rate of code 9", x.rate(5, 9, 20, 1), 9999);
        Due.is("rate of code 4", x.rate(5, 4, 20, 1), 44);
        Due.is("rate of code 5", x.rate(5, 5, 20, 1), 55);
        Due.is("rate of a refused line", x.rate(5, 6, 20, 1), -1);
    }

    private static void linesRefused() {
        TripleHouse x = new TripleHouse();
        Due.no("no draft", x.line(1, 1, 1));
        x.draft(1, 1);
        Due.no("no such office -1", x.line(-1, 1, 1));
        Due.no("no such office 27", x.line(27, 1, 1));
        Due.no("no such code -1", x.line(1, -1, 1));
        Due.no("no such code 10", x.line(1, 10, 1));
        Due.no("cents -1", x.line(1, 1, -1));
        Due.no("cents 10000", x.line(1, 1, 10000));
        Due.no("another office's draft", x.line(2, 1, 1));
        Due.fails("nothing was added", () -> x.propose(1), Due.ILLEGAL_ARGUMENT);
        Due.yes("a good line", x.line(1, 1, 1));
        x.crash(1);
        Due.no("the draft is gone", x.line(1, 2, 1));
        x.restart(1);
        Due.no("the draft is still gone", x.line(1, 2, 1));
    }

    private static void rateByDayAndNumber() {
        TripleHouse x = new TripleHouse();
        Steps.settle(x, 4, 100, 3, 10);
        Steps.settle(x, 4, 50, 3, 20);
        Steps.settle(x, 4, 100, 3, 30);
        Steps.settle(x, 4, 0, 7, 40);
        Due.is("complete(4)", x.complete(4), 4);
        Due.is("no tariffs", x.rate(4, 3, 999, 0), -1);
        Due.is("before its day", x.rate(4, 3, 99, 1), -1);
        Due.is("on its day", x.rate(4, 3, 100, 1), 10);
        Due.is("the latest day, not the greatest number", x.rate(4, 3, 999, 2), 10);
        Due.is("the later one is not valid yet", x.rate(4, 3, 99, 2), 20);
        Due.is("of one day the greatest number", x.rate(4, 3, 100, 3), 30);
        Due.is("another code does not count", x.rate(4, 3, 999, 4), 30);
        Due.is("day 0", x.rate(4, 7, 0, 4), 40);
        Due.is("before all", x.rate(4, 3, 49, 4), -1);
    }

    private static void rateRefused() {
        TripleHouse x = new TripleHouse();
        Steps.settle(x, 4, 0, 0, 10);
        Due.is("rate", x.rate(4, 0, 0, 1), 10);
        Due.is("no such office -1", x.rate(-1, 0, 0, 1), -1);
        Due.is("no such office 27", x.rate(27, 0, 0, 1), -1);
        Due.is("no such code -1", x.rate(4, -1, 0, 1), -1);
        Due.is("no such code 10", x.rate(4, 10, 0, 1), -1);
        Due.is("no such day -1", x.rate(4, 0, -1, 1), -1);
        Due.is("no such day 1000", x.rate(4, 0, 1000, 1), -1);
        Due.is("day 999", x.rate(4, 0, 999, 1), 10);
        Due.is("n below 0", x.rate(4, 0, 0, -1), -1);
        Due.is("n above what it knows", x.rate(4, 0, 0, 2), -1);
        Due.is("n far above", x.rate(4, 0, 0, Integer.MAX_VALUE), -1);
        Due.is("an office that knows nothing", x.rate(5, 0, 0, 1), -1);
        x.crash(4);
        Due.is("a failed office keeps what it knows", x.rate(4, 0, 0, 1), 10);
    }

    private static void rateWithGap() {
        TripleHouse x = new TripleHouse();
        Steps.settle(x, 4, 0, 0, 10);
        Steps.settle(x, 4, 0, 0, 20);
        x.spread(4);
        Due.is("letters of two numbers", x.letters(), 12);
        x.deliver(6);
        Due.is("number 1 known", x.decided(1, 1), 1);
        Due.is("gap", x.complete(1), 0);
        Due.is("rate behind a gap", x.rate(1, 0, 5, 2), -1);
        x.deliver(0);
        Due.is("no gap", x.complete(1), 2);
        Due.is("rate without a gap", x.rate(1, 0, 5, 2), 20);
        Due.is("the first one only", x.rate(1, 0, 5, 1), 10);
    }
}
