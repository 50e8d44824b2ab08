import java.util.Random;

/** Long runs of calls, as chance has it but always the same, against the second writing. */
public final class ModelTest {
    private static final int RUNS = 1500;
    private static final int CALLS = 512;
    private static final int CALM = 0;
    private static final int FLOOD = 4;

    private final Random random;
    private final TripleHouse x = new TripleHouse();
    private final Model model = new Model();
    private final int temper;
    private int calls = 0;
    private int busiest = 0;
    private long gotAnswer;
    private long wantAnswer;

    private ModelTest(int seed) {
        random = new Random(seed);
        temper = seed % 5;
    }

    public static void main(String[] args) {
        int fullRows = 0;
        int allNumbers = 0;
        for (int seed = 0; seed < RUNS; seed++) {
            ModelTest test = new ModelTest(seed);
            // The last calls are for looking at what all offices came to know.
            while (test.calls < CALLS - 27 * 6 - 6) {
                test.step("run " + seed + " call " + test.calls + ": ");
            }
            test.checkSafety("run " + seed + ": ");
            fullRows += test.busiest == 150 ? 1 : 0;
            allNumbers += test.mostKnown() == 6 ? 1 : 0;
        }
        Due.yes("rows were full", fullRows > 100);
        Due.yes("offices knew all numbers", allNumbers > 20);
        Due.end();
    }

    private int below(int n) {
        return random.nextInt(n);
    }

    /** Few offices propose, so that they meet; now and then there is no such office. */
    private int someOffice() {
        int dice = below(40);
        if (dice == 0) {
            return below(2) == 0 ? -1 - below(3) : 27 + below(3);
        }
        if (temper == CALM && dice < 38) {
            return 13;
        }
        return dice < 25 ? new int[] {0, 1, 13, 26}[below(4)] : below(27);
    }

    private int someLetter() {
        int dice = below(60);
        if (dice == 0) {
            return below(2) == 0 ? -1 : model.row.size() + below(2);
        }
        return dice < 30 || model.row.isEmpty() ? 0 : below(model.row.size());
    }

    private void same(String call, Due.Call got, Due.Call want) {
        calls++;
        int thrown = Due.thrownBy(() -> keep(want));
        Due.is(call + " throws", Due.thrownBy(() -> keepGot(got)), thrown);
        if (thrown == 0) {
            Due.is(call, gotAnswer, wantAnswer);
        }
    }

    private long keep(Due.Call call) {
        wantAnswer = call.answer();
        return wantAnswer;
    }

    private long keepGot(Due.Call call) {
        gotAnswer = call.answer();
        return gotAnswer;
    }

    private static int num(boolean yes) {
        return yes ? 1 : 0;
    }

    private void step(String at) {
        int dice = below(100);
        if (temper == CALM && model.row.isEmpty()) {
            goOn(at);
        } else if (dice < (temper == FLOOD ? 15 : temper == CALM ? 80 : 50)) {
            deliver(at);
        } else if (dice < 85) {
            write(at);
        } else if (dice < 92) {
            disturb(at);
        } else {
            look(at, below(12));
        }
        busiest = Math.max(busiest, model.row.size());
    }

    /** Office 13 takes up its run again, or begins one, so that all numbers come up. */
    private void goOn(String at) {
        same(at + "restart(13)", () -> num(x.restart(13)), () -> num(model.restart(13)));
        same(at + "resend(13)", () -> x.resend(13), () -> model.resend(13));
        draft(at, 13);
        line(at, 13);
        propose(at, 13);
    }

    private void deliver(String at) {
        int i = someLetter();
        same(at + "deliver(" + i + ")", () -> x.deliver(i), () -> model.deliver(i));
    }

    private void write(String at) {
        int o = someOffice();
        int p = someOffice();
        switch (below(temper == CALM ? 7 : 9)) {
            case 0 -> draft(at, o);
            case 1 -> line(at, o);
            case 2 -> propose(at, o);
            case 3, 4, 5 -> {
                draft(at, o);
                line(at, o);
                propose(at, o);
            }
            case 6 -> same(at + "resend(" + o + ")", () -> x.resend(o), () -> model.resend(o));
            case 7 -> same(at + "silent(" + o + ", " + p + ")", () -> x.silent(o, p), () -> model.silent(o, p));
            default -> same(at + "spread(" + o + ")", () -> x.spread(o), () -> model.spread(o));
        }
    }

    private void draft(String at, int o) {
        int day = below(30) == 0 ? below(2) * 1001 - 1 : below(4) * 333;
        same(at + "draft(" + o + ", " + day + ")", () -> x.draft(o, day), () -> model.draft(o, day));
    }

    private void line(String at, int o) {
        int code = below(12) - 1;
        int cents = below(10) == 0 ? below(2) * 10001 - 1 : below(10000);
        same(at + "line(" + o + ", ..)", () -> num(x.line(o, code, cents)), () -> num(model.line(o, code, cents)));
    }

    private void propose(String at, int o) {
        same(at + "propose(" + o + ")", () -> x.propose(o), () -> model.propose(o));
    }

    private void disturb(String at) {
        int o = someOffice();
        int i = someLetter();
        int dice = below(temper == CALM ? 30 : 8);
        if (dice < 2) {
            same(at + "lose", () -> num(x.lose(i)), () -> num(model.lose(i)));
        } else if (dice < 5) {
            same(at + "twin", () -> num(x.twin(i)), () -> num(model.twin(i)));
        } else if (dice == 5) {
            same(at + "crash(" + o + ")", () -> num(x.crash(o)), () -> num(model.crash(o)));
        } else {
            same(at + "restart(" + o + ")", () -> num(x.restart(o)), () -> num(model.restart(o)));
        }
    }

    private void look(String at, int what) {
        int o = someOffice();
        int n = below(8) - 1;
        switch (what) {
            case 0 -> same(at + "letters", () -> x.letters(), () -> model.row.size());
            case 1, 2, 3 -> {
                int i = model.row.isEmpty() ? 0 : below(model.row.size() + 1);
                same(at + "letter(" + i + ", " + n + ")", () -> x.letter(i, n), () -> model.letter(i, n));
            }
            case 4 -> same(at + "asked all", () -> x.asked(o, true), () -> model.asked(o, true));
            case 5 -> same(at + "asked", () -> x.asked(o, false), () -> model.asked(o, false));
            case 6, 7 -> same(at + "run(" + o + ", " + n + ")", () -> x.run(o, n), () -> model.run(o, n));
            case 8 -> same(at + "promised", () -> x.promised(o), () -> model.promised(o));
            case 9 -> same(at + "accepted", () -> x.accepted(o, n), () -> model.accepted(o, n));
            case 10 -> {
                same(at + "decided", () -> x.decided(o, n), () -> model.decided(o, n));
                same(at + "complete", () -> x.complete(o), () -> model.complete(o));
            }
            default -> {
                int code = below(12) - 1;
                int day = below(1010) - 5;
                same(at + "rate", () -> x.rate(o, code, day, n), () -> model.rate(o, code, day, n));
            }
        }
    }

    /** The document's first sentence: what is settled never changes, wherever it is known. */
    private void checkSafety(String run) {
        for (int n = 0; n < 6; n++) {
            int settled = -1;
            for (int o = 0; o < 27; o++) {
                int draft = x.decided(o, n);
                Due.is(run + "decided(" + o + ", " + n + ")", draft, model.decided(o, n));
                settled = settled == -1 ? draft : settled;
                Due.yes(run + "one draft under number " + n, draft == -1 || draft == settled);
            }
        }
    }

    private int mostKnown() {
        int most = 0;
        for (int o = 0; o < 27; o++) {
            most = Math.max(most, model.complete(o));
        }
        return most;
    }
}
