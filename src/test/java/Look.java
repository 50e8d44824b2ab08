import java.util.ArrayList;
import java.util.List;

/**
 * All that can be seen of an object after some calls. An object is good for 512 calls, so the
 * calls (300 at most) are made on as many objects as the questions need.
 */
final class Look {
    private static final int QUESTIONS_EACH = 210;

    private Look() {
    }

    static String after(Edge.Calls calls) {
        StringBuilder seen = new StringBuilder();
        ask(seen, calls, ofOffices());
        ask(seen, calls, ofLetters(calls));
        ask(seen, calls, ofRates());
        ask(seen, calls, ofOpenDrafts());
        ask(seen, calls, ofFailures());
        ask(seen, calls, ofTheNextDeliveries());
        for (int o = 0; o < 27; o++) {
            ask(seen, calls, ofSilence(o));
        }
        return seen.toString();
    }

    private static void ask(StringBuilder seen, Edge.Calls calls, List<Edge.Question> questions) {
        TripleHouse x = null;
        for (int k = 0; k < questions.size(); k++) {
            if (k % QUESTIONS_EACH == 0) {
                x = Edge.after(calls);
            }
            seen.append(Edge.answer(x, questions.get(k))).append(' ');
        }
        seen.append('\n');
    }

    private static List<Edge.Question> ofOffices() {
        List<Edge.Question> list = new ArrayList<>();
        for (int k = 0; k < 27; k++) {
            int o = k;
            list.add(x -> x.promised(o));
            list.add(x -> x.complete(o));
            list.add(x -> x.asked(o, true));
            list.add(x -> x.asked(o, false));
            for (int j = 0; j < 6; j++) {
                int n = j;
                list.add(x -> x.accepted(o, n));
                list.add(x -> x.decided(o, n));
                list.add(x -> x.run(o, n));
            }
        }
        return list;
    }

    private static List<Edge.Question> ofLetters(Edge.Calls calls) {
        int waiting = Edge.after(calls).letters();
        List<Edge.Question> list = new ArrayList<>();
        list.add(TripleHouse::letters);
        for (int k = 0; k < waiting * 6; k++) {
            int i = k / 6;
            int what = k % 6;
            list.add(x -> x.letter(i, what));
        }
        return list;
    }

    private static List<Edge.Question> ofRates() {
        List<Edge.Question> list = new ArrayList<>();
        for (int k = 0; k < 27 * 10; k++) {
            int o = k / 10;
            int code = k % 10;
            list.add(x -> x.rate(o, code, 999, 1));
        }
        return list;
    }

    /** Which codes are free, and how many lines: seen by writing lines. */
    private static List<Edge.Question> ofOpenDrafts() {
        List<Edge.Question> list = new ArrayList<>();
        for (int k = 0; k < 27 * 10; k++) {
            int o = k / 10;
            int code = k % 10;
            list.add(x -> Edge.num(x.line(o, code, 1)));
        }
        return list;
    }

    /** Who has failed, and how many drafts there are: seen by letting all come back. */
    private static List<Edge.Question> ofFailures() {
        List<Edge.Question> list = new ArrayList<>();
        for (int k = 0; k < 27; k++) {
            int o = k;
            list.add(x -> Edge.num(x.restart(o)));
        }
        list.add(x -> x.draft(13, 5));
        return list;
    }

    /** What letters bring, and what runs settle, is seen by what comes of it. */
    private static List<Edge.Question> ofTheNextDeliveries() {
        List<Edge.Question> list = new ArrayList<>();
        for (int k = 0; k < 150; k++) {
            list.add(x -> x.deliver(0));
        }
        for (int k = 0; k < 27; k++) {
            int o = k;
            list.add(x -> x.promised(o));
            list.add(x -> x.decided(o, 0));
        }
        return list;
    }

    private static List<Edge.Question> ofSilence(int o) {
        List<Edge.Question> list = new ArrayList<>();
        for (int k = 0; k < 27; k++) {
            int p = k;
            list.add(x -> x.silent(o, p));
            list.add(x -> x.asked(o, true));
        }
        return list;
    }
}
