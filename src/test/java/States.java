/** States from which boundary cases set out; each takes 300 calls at most. */
final class States {
    private States() {
    }

    static void fresh(TripleHouse x) {
    }

    /**
     * Office 4 knows number 0; 0 is asking, with one answer; 26 is settling, with one answer; 2 has
     * a draft with two lines; 20 has failed; letters of all kinds wait.
     */
    static void busy(TripleHouse x) {
        Steps.settle(x, 4, 10, 3, 250);
        x.spread(4);
        Steps.start(x, 0, 20, 1, 7);
        x.deliver(6);
        x.deliver(6);
        x.deliver(7);
        x.deliver(11);
        Steps.start(x, 26, 30, 2, 8);
        for (int k = 0; k < 18; k++) {
            x.deliver(13);
        }
        x.deliver(19);
        x.silent(26, 24);
        Steps.open(x, 2, 40, 5, 55);
        x.line(2, 6, 66);
        x.crash(20);
    }

    /** The same with 150 letters. */
    static void full(TripleHouse x) {
        busy(x);
        Steps.fillTo(x, 150);
    }

    /** A run of office 0 with eight ASKs; draft 0 with code 0 for 0 cents from day 0. */
    static void asking(TripleHouse x) {
        Steps.start(x, 0, 0, 0, 0);
    }

    /** The same, when all have given: eight SETTLEs wait. */
    static void settling(TripleHouse x) {
        asking(x);
        Steps.deliverFirst(x, 16);
    }

    /** Office 4 knows numbers 0 up to a count, draft n under number n: n cents for code n. */
    static void knowing(TripleHouse x, int count) {
        for (int n = 0; n < count; n++) {
            Steps.settle(x, 4, n, n, n);
        }
    }

    /** The eight offices that are left hold just a choice of office 0; 19 are silent. */
    static void noneToSpare(TripleHouse x) {
        asking(x);
        for (int p = 26; p >= 0; p--) {
            if ((Steps.set(0, 1, 3, 4, 9, 10, 12, 13) >> p & 1) == 0) {
                x.silent(0, p);
            }
        }
    }
}
