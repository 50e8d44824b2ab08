/** Runs of calls that several tests need, with few calls: an object is good for 512. */
final class Steps {
    private Steps() {
    }

    /** The sum of 2^office. */
    static int set(int... offices) {
        int set = 0;
        for (int o : offices) {
            set |= 1 << o;
        }
        return set;
    }

    static void open(TripleHouse x, int o, int day, int code, int cents) {
        x.draft(o, day);
        x.line(o, code, cents);
    }

    static void start(TripleHouse x, int o, int day, int code, int cents) {
        open(x, o, day, code, cents);
        x.propose(o);
    }

    static void deliverFirst(TripleHouse x, int times) {
        for (int k = 0; k < times; k++) {
            x.deliver(0);
        }
    }

    static void deliverAll(TripleHouse x) {
        int waiting = x.letters();
        for (int k = 0; k < 400 && waiting > 0; k++) {
            waiting += x.deliver(0) - 1;
        }
    }

    static void loseAll(TripleHouse x) {
        for (int waiting = x.letters(); waiting > 0; waiting--) {
            x.lose(0);
        }
    }

    /** An undisturbed run: 8 ASKs, 8 GIVEs, 8 SETTLEs, 8 TAKENs. */
    static void settle(TripleHouse x, int o, int day, int code, int cents) {
        start(x, o, day, code, cents);
        deliverAll(x);
    }

    /** Lets office p know all that office o knows, p being a neighbour of o. */
    static void tell(TripleHouse x, int o, int p) {
        x.spread(o);
        for (int i = x.letters() - 1; i >= 0; i--) {
            if (x.letter(i, 0) == 5 && x.letter(i, 2) != p) {
                x.lose(i);
            }
        }
        deliverAll(x);
    }

    /** The index of the first letter of a kind to an office, or -1. */
    static int find(TripleHouse x, int kind, int to) {
        int waiting = x.letters();
        for (int i = 0; i < waiting; i++) {
            if (x.letter(i, 0) == kind && x.letter(i, 2) == to) {
                return i;
            }
        }
        return -1;
    }

    /** Fills the row up to a number of waiting letters by twins of the first one. */
    static void fillTo(TripleHouse x, int count) {
        for (int k = x.letters(); k < count; k++) {
            x.twin(0);
        }
    }
}
