import java.util.ArrayList;
import java.util.List;
import java.util.Map;
import java.util.SortedSet;
import java.util.TreeMap;
import java.util.TreeSet;

/**
 * The document once more, written with the Java library and by counting, so that a slip in the
 * program is not made here, too. An answer is a number; a thrown exception is told by Due.
 */
final class Model {
    private static final String KINDS = "ASK GIVE NO SETTLE TAKEN TELL";

    record Accepted(int ballot, int draft) {
    }

    record Letter(String kind, int from, int to, int ballot, int number, int extra, Accepted brought) {
    }

    static final class Draft {
        int day;
        final Map<Integer, Integer> lines = new TreeMap<>();
    }

    static final class Run {
        int own;
        int number;
        int ballot;
        boolean asking;
        int settled;
        SortedSet<Integer> asked = new TreeSet<>();
        final SortedSet<Integer> answered = new TreeSet<>();
        final SortedSet<Integer> silent = new TreeSet<>();
        final List<Accepted> brought = new ArrayList<>();
    }

    static final class Office {
        boolean failed;
        int promised;
        Integer open;
        Run run;
        final Map<Integer, Accepted> accepted = new TreeMap<>();
        final Map<Integer, Integer> known = new TreeMap<>();

        int complete() {
            int n = 0;
            while (known.containsKey(n)) {
                n++;
            }
            return n;
        }
    }

    final Office[] offices = new Office[27];
    final List<Draft> drafts = new ArrayList<>();
    final List<Letter> row = new ArrayList<>();
    private int sent;

    Model() {
        for (int o = 0; o < 27; o++) {
            offices[o] = new Office();
        }
    }

    static boolean office(int o) {
        return 0 <= o && o <= 26;
    }

    static int bits(SortedSet<Integer> set) {
        int sum = 0;
        for (int o : set) {
            sum += 1 << o;
        }
        return sum;
    }

    static boolean coversDistrict(SortedSet<Integer> set, int district) {
        return set.stream().filter(o -> o / 3 == district).count() >= 2;
    }

    static boolean coversRegion(SortedSet<Integer> set, int region) {
        int covered = 0;
        for (int d = 3 * region; d < 3 * region + 3; d++) {
            covered += coversDistrict(set, d) ? 1 : 0;
        }
        return covered >= 2;
    }

    static boolean isQuorum(SortedSet<Integer> set) {
        int covered = 0;
        for (int r = 0; r < 3; r++) {
            covered += coversRegion(set, r) ? 1 : 0;
        }
        return covered >= 2;
    }

    static SortedSet<Integer> choice(int o, SortedSet<Integer> silent) {
        SortedSet<Integer> free = new TreeSet<>();
        for (int p = 0; p < 27; p++) {
            if (!silent.contains(p)) {
                free.add(p);
            }
        }
        SortedSet<Integer> chosen = new TreeSet<>();
        if (!isQuorum(free)) {
            return chosen;
        }
        int[][] orders = {{0, 1, 2}, {1, 2, 0}, {2, 0, 1}};
        int regions = 0;
        for (int r : orders[o / 9]) {
            if (regions < 2 && coversRegion(free, r)) {
                regions++;
                int districts = 0;
                for (int d : orders[o % 9 / 3]) {
                    if (districts < 2 && coversDistrict(free, 3 * r + d)) {
                        districts++;
                        int found = 0;
                        for (int p : orders[o % 3]) {
                            int candidate = 9 * r + 3 * d + p;
                            if (found < 2 && free.contains(candidate)) {
                                found++;
                                chosen.add(candidate);
                            }
                        }
                    }
                }
            }
        }
        return chosen;
    }

    private void send(Letter letter) {
        sent++;
        if (row.size() < 150) {
            row.add(letter);
        }
    }

    private void sendPhase(int o, SortedSet<Integer> to) {
        Run run = offices[o].run;
        for (int p : to) {
            send(run.asking
                    ? new Letter("ASK", o, p, run.ballot, run.number, -1, null)
                    : new Letter("SETTLE", o, p, run.ballot, run.number, run.settled, null));
        }
    }

    private void begin(int o, int told) {
        Office office = offices[o];
        Run run = office.run;
        if (office.complete() == 6) {
            office.run = null;
            return;
        }
        run.number = office.complete();
        run.ballot = 27 * (Math.max(office.promised / 27, told / 27) + 1) + o;
        office.promised = run.ballot;
        run.asking = true;
        run.asked = choice(o, run.silent);
        run.answered.clear();
        run.brought.clear();
        sendPhase(o, run.asked);
    }

    private void learn(int o, int number, int draft) {
        Office office = offices[o];
        if (office.known.putIfAbsent(number, draft) != null) {
            return;
        }
        if (office.run != null && office.run.number == number) {
            if (office.run.own == draft) {
                office.run = null;
            } else {
                begin(o, 0);
            }
        }
    }

    int draft(int o, int day) {
        if (!office(o) || day < 0 || day > 999 || offices[o].failed || drafts.size() >= 40) {
            return -1;
        }
        Draft draft = new Draft();
        draft.day = day;
        drafts.add(draft);
        offices[o].open = drafts.size() - 1;
        return drafts.size() - 1;
    }

    boolean line(int o, int code, int cents) {
        if (!office(o) || offices[o].open == null || code < 0 || code > 9 || cents < 0 || cents > 9999) {
            return false;
        }
        Map<Integer, Integer> lines = drafts.get(offices[o].open).lines;
        if (lines.containsKey(code) || lines.size() >= 4) {
            return false;
        }
        lines.put(code, cents);
        return true;
    }

    int propose(int o) {
        if (!office(o) || offices[o].open == null || drafts.get(offices[o].open).lines.isEmpty()) {
            throw new IllegalArgumentException();
        }
        Office office = offices[o];
        if (office.failed || office.run != null || office.complete() == 6) {
            throw new IllegalStateException();
        }
        office.run = new Run();
        office.run.own = office.open;
        office.open = null;
        begin(o, 0);
        return office.run.number;
    }

    int silent(int o, int p) {
        if (!office(o) || !office(p)) {
            throw new IllegalArgumentException();
        }
        Run run = offices[o].run;
        if (offices[o].failed || run == null || run.silent.contains(p)) {
            throw new IllegalStateException();
        }
        SortedSet<Integer> silent = new TreeSet<>(run.silent);
        silent.add(p);
        SortedSet<Integer> choice = choice(o, silent);
        if (choice.isEmpty()) {
            throw new IllegalStateException();
        }
        run.silent.add(p);
        SortedSet<Integer> fresh = new TreeSet<>(choice);
        fresh.removeAll(run.asked);
        run.asked = choice;
        sent = 0;
        sendPhase(o, fresh);
        return sent;
    }

    int resend(int o) {
        if (!office(o)) {
            throw new IllegalArgumentException();
        }
        Run run = offices[o].run;
        if (offices[o].failed || run == null) {
            throw new IllegalStateException();
        }
        SortedSet<Integer> open = new TreeSet<>(run.asked);
        open.removeAll(run.answered);
        sent = 0;
        sendPhase(o, open);
        return sent;
    }

    int spread(int o) {
        if (!office(o)) {
            throw new IllegalArgumentException();
        }
        if (offices[o].failed) {
            throw new IllegalStateException();
        }
        SortedSet<Integer> around = new TreeSet<>();
        for (int k = 0; k < 3; k++) {
            around.add(o / 3 * 3 + k);
            around.add(o / 9 * 9 + 3 * k + o % 3);
            around.add(9 * k + o % 9);
        }
        around.remove(o);
        sent = 0;
        offices[o].known.forEach((number, draft) -> {
            for (int p : around) {
                send(new Letter("TELL", o, p, 0, number, draft, null));
            }
        });
        return sent;
    }

    int letter(int i, int what) {
        if (i < 0 || i >= row.size() || what < 0 || what > 5) {
            throw new IndexOutOfBoundsException();
        }
        Letter l = row.get(i);
        int kind = List.of(KINDS.split(" ")).indexOf(l.kind());
        return new int[] {kind, l.from(), l.to(), l.ballot(), l.number(), l.extra()}[what];
    }

    int deliver(int i) {
        if (i < 0 || i >= row.size()) {
            throw new IndexOutOfBoundsException();
        }
        Letter l = row.remove(i);
        sent = 0;
        if (!offices[l.to()].failed) {
            hear(l, offices[l.to()]);
        }
        return sent;
    }

    private void hear(Letter l, Office office) {
        Run run = office.run;
        boolean mine = run != null && run.ballot == l.ballot();
        switch (l.kind()) {
            case "ASK", "SETTLE" -> hearAskOrSettle(l, office);
            case "GIVE" -> {
                if (mine && run.asking) {
                    run.answered.add(l.from());
                    run.brought.add(l.brought());
                    if (isQuorum(run.answered)) {
                        settle(l.to(), run);
                    }
                }
            }
            case "TAKEN" -> {
                if (mine && !run.asking) {
                    run.answered.add(l.from());
                    if (isQuorum(run.answered)) {
                        learn(l.to(), run.number, run.settled);
                    }
                }
            }
            case "NO" -> {
                if (mine) {
                    begin(l.to(), l.extra());
                }
            }
            default -> learn(l.to(), l.number(), l.extra());
        }
    }

    private void hearAskOrSettle(Letter l, Office office) {
        if (l.ballot() < office.promised) {
            send(new Letter("NO", l.to(), l.from(), l.ballot(), -1, office.promised, null));
            return;
        }
        office.promised = l.ballot();
        if (l.kind().equals("ASK")) {
            Accepted then = office.accepted.get(l.number());
            send(new Letter("GIVE", l.to(), l.from(), l.ballot(), l.number(), -1, then));
        } else {
            office.accepted.put(l.number(), new Accepted(l.ballot(), l.extra()));
            send(new Letter("TAKEN", l.to(), l.from(), l.ballot(), l.number(), -1, null));
        }
    }

    private void settle(int o, Run run) {
        Accepted best = null;
        for (Accepted a : run.brought) {
            if (a != null && (best == null || a.ballot() > best.ballot())) {
                best = a;
            }
        }
        run.settled = best == null ? run.own : best.draft();
        run.asking = false;
        run.answered.clear();
        sendPhase(o, run.asked);
    }

    boolean lose(int i) {
        if (i < 0 || i >= row.size()) {
            return false;
        }
        row.remove(i);
        return true;
    }

    boolean twin(int i) {
        if (i < 0 || i >= row.size() || row.size() >= 150) {
            return false;
        }
        row.add(row.get(i));
        return true;
    }

    boolean crash(int o) {
        if (!office(o) || offices[o].failed) {
            return false;
        }
        offices[o].failed = true;
        offices[o].run = null;
        offices[o].open = null;
        return true;
    }

    boolean restart(int o) {
        if (!office(o) || !offices[o].failed) {
            return false;
        }
        offices[o].failed = false;
        return true;
    }

    int asked(int o, boolean all) {
        if (!office(o) || offices[o].run == null) {
            return 0;
        }
        return bits(all ? offices[o].run.asked : offices[o].run.answered);
    }

    int run(int o, int what) {
        if (!office(o) || what < 0 || what > 3) {
            return -1;
        }
        Run run = offices[o].run;
        if (run == null) {
            return what == 0 ? 0 : -1;
        }
        return new int[] {run.asking ? 1 : 2, run.number, run.ballot, run.own}[what];
    }

    int promised(int o) {
        return office(o) ? offices[o].promised : -1;
    }

    int accepted(int o, int n) {
        if (!office(o) || n < 0 || n > 5) {
            return -1;
        }
        Accepted a = offices[o].accepted.get(n);
        return a == null ? 0 : a.ballot();
    }

    int decided(int o, int n) {
        return office(o) ? offices[o].known.getOrDefault(n, -1) : -1;
    }

    int complete(int o) {
        return office(o) ? offices[o].complete() : -1;
    }

    int rate(int o, int code, int day, int n) {
        if (!office(o) || day < 0 || day > 999 || n < 0 || n > offices[o].complete()) {
            return -1;
        }
        int cents = -1;
        for (int from = 0; from <= day; from++) {
            for (int k = 0; k < n; k++) {
                Draft draft = drafts.get(offices[o].known.get(k));
                if (draft.day == from && draft.lines.containsKey(code)) {
                    cents = draft.lines.get(code);
                }
            }
        }
        return cents;
    }
}
