import java.util.Arrays;

/** Twenty-seven offices that settle tariffs, one number after the other, by letters. */
public final class TripleHouse {
    public static final int NONE = -1;

    private static final int OFFICES = 27;
    private static final int ALL_OFFICES = (1 << OFFICES) - 1;
    private static final int NUMBERS = 6;
    private static final int DRAFTS = 40;
    private static final int LINES = 4;
    private static final int CODES = 10;
    private static final int DAYS = 1000;
    private static final int CENTS = 10000;
    private static final int LETTERS = 150;

    private static final int ASK = 0;
    private static final int GIVE = 1;
    private static final int NO = 2;
    private static final int SETTLE = 3;
    private static final int TAKEN = 4;
    private static final int TELL = 5;

    private static final int IDLE = 0;
    private static final int ASKING = 1;
    private static final int SETTLING = 2;

    private final Office[] offices = new Office[OFFICES];
    private final Tariff[] tariffs = new Tariff[DRAFTS];
    private final Mail mail = new Mail();
    private int begun = 0;

    public TripleHouse() {
        for (int o = 0; o < OFFICES; o++) {
            offices[o] = new Office(o);
        }
        for (int d = 0; d < DRAFTS; d++) {
            tariffs[d] = new Tariff();
        }
    }

    public int draft(int o, int day) {
        if (!isOffice(o) || !isDay(day) || offices[o].failed || begun == DRAFTS) {
            return NONE;
        }
        tariffs[begun].day = day;
        offices[o].open = begun;
        begun++;
        return offices[o].open;
    }

    public boolean line(int o, int code, int cents) {
        if (!isOffice(o) || offices[o].open == NONE || !isCode(code) || cents < 0 || cents >= CENTS) {
            return false;
        }
        return tariffs[offices[o].open].write(code, cents);
    }

    public int propose(int o) throws IllegalArgumentException, IllegalStateException {
        if (!isOffice(o) || !hasLines(offices[o].open)) {
            throw new IllegalArgumentException("no such office, or no draft with lines to propose");
        }
        Office office = offices[o];
        if (office.failed || office.run.phase != IDLE || office.firstUnknown() == NUMBERS) {
            throw new IllegalStateException("failed, a run is on, or all numbers are decided");
        }
        office.run.own = office.open;
        office.run.silenced = 0;
        office.open = NONE;
        begin(office, 0);
        return office.run.number;
    }

    public int silent(int o, int p) throws IllegalArgumentException, IllegalStateException {
        if (!isOffice(o) || !isOffice(p)) {
            throw new IllegalArgumentException("no such office");
        }
        Run run = offices[o].run;
        if (offices[o].failed || run.phase == IDLE || Sets.has(run.silenced, p)) {
            throw new IllegalStateException("failed, no run, or silent already");
        }
        int silenced = run.silenced | 1 << p;
        int choice = Sets.pick(ALL_OFFICES & ~silenced, o);
        if (choice == 0) {
            throw new IllegalStateException("there would be no choice");
        }
        int added = choice & ~run.called;
        run.silenced = silenced;
        run.called = choice;
        return sendPhase(offices[o], added);
    }

    public int resend(int o) throws IllegalArgumentException, IllegalStateException {
        if (!isOffice(o)) {
            throw new IllegalArgumentException("no such office");
        }
        Run run = offices[o].run;
        if (offices[o].failed || run.phase == IDLE) {
            throw new IllegalStateException("failed, or no run");
        }
        return sendPhase(offices[o], run.called & ~run.answered);
    }

    public int spread(int o) throws IllegalArgumentException, IllegalStateException {
        if (!isOffice(o)) {
            throw new IllegalArgumentException("no such office");
        }
        Office office = offices[o];
        if (office.failed) {
            throw new IllegalStateException("failed");
        }
        int sent = 0;
        for (int n = 0; n < NUMBERS; n++) {
            if (office.known[n] != NONE) {
                sent += tellNeighbours(office, n);
            }
        }
        return sent;
    }

    public int letters() {
        return mail.count;
    }

    public int letter(int i, int what) throws IndexOutOfBoundsException {
        if (!mail.holds(i) || what < 0 || what > 5) {
            throw new IndexOutOfBoundsException("no such letter, or no such part of it");
        }
        Letter letter = mail.row[i];
        switch (what) {
            case 0:
                return letter.kind;
            case 1:
                return letter.from;
            case 2:
                return letter.to;
            case 3:
                return letter.ballot;
            case 4:
                return letter.number;
            default:
                return letter.content;
        }
    }

    public int deliver(int i) throws IndexOutOfBoundsException {
        if (!mail.holds(i)) {
            throw new IndexOutOfBoundsException("no such letter");
        }
        Letter letter = mail.take(i);
        Office office = offices[letter.to];
        if (office.failed) {
            return 0;
        }
        switch (letter.kind) {
            case ASK:
                return hearAsk(office, letter);
            case GIVE:
                return hearGive(office, letter);
            case NO:
                return hearNo(office, letter);
            case SETTLE:
                return hearSettle(office, letter);
            case TAKEN:
                return hearTaken(office, letter);
            default:
                return learn(office, letter.number, letter.content);
        }
    }

    public boolean lose(int i) {
        if (!mail.holds(i)) {
            return false;
        }
        mail.take(i);
        return true;
    }

    public boolean twin(int i) {
        if (!mail.holds(i) || mail.count == LETTERS) {
            return false;
        }
        mail.copyToEnd(i);
        return true;
    }

    public boolean crash(int o) {
        if (!isOffice(o) || offices[o].failed) {
            return false;
        }
        offices[o].failed = true;
        offices[o].open = NONE;
        offices[o].run.phase = IDLE;
        return true;
    }

    public boolean restart(int o) {
        if (!isOffice(o) || !offices[o].failed) {
            return false;
        }
        offices[o].failed = false;
        return true;
    }

    public boolean quorum(int set) {
        return Sets.isQuorum(set);
    }

    public int least(int set) {
        // An office weighs more than all lower ones together, so the least sum is the one that
        // takes the lower region, district and office first.
        return Sets.pick(set, 0);
    }

    public int asked(int o, boolean all) {
        if (!isOffice(o) || offices[o].run.phase == IDLE) {
            return 0;
        }
        return all ? offices[o].run.called : offices[o].run.answered;
    }

    public int run(int o, int what) {
        if (!isOffice(o)) {
            return NONE;
        }
        Run run = offices[o].run;
        if (what == 0) {
            return run.phase;
        }
        if (run.phase == IDLE) {
            return NONE;
        }
        switch (what) {
            case 1:
                return run.number;
            case 2:
                return run.ballot;
            case 3:
                return run.own;
            default:
                return NONE;
        }
    }

    public int promised(int o) {
        return isOffice(o) ? offices[o].pledge : NONE;
    }

    public int accepted(int o, int n) {
        return isOffice(o) && isNumber(n) ? offices[o].takenBallot[n] : NONE;
    }

    public int decided(int o, int n) {
        return isOffice(o) && isNumber(n) ? offices[o].known[n] : NONE;
    }

    public int complete(int o) {
        return isOffice(o) ? offices[o].firstUnknown() : NONE;
    }

    public int rate(int o, int code, int day, int n) {
        if (!isOffice(o) || !isCode(code) || !isDay(day) || n < 0 || n > offices[o].firstUnknown()) {
            return NONE;
        }
        int cents = NONE;
        int latest = NONE;
        for (int k = 0; k < n; k++) {
            Tariff tariff = tariffs[offices[o].known[k]];
            int at = tariff.lineOf(code);
            if (at != NONE && tariff.day <= day && tariff.day >= latest) {
                latest = tariff.day;
                cents = tariff.cents[at];
            }
        }
        return cents;
    }

    private static boolean isOffice(int o) {
        return o >= 0 && o < OFFICES;
    }

    private static boolean isDay(int day) {
        return day >= 0 && day < DAYS;
    }

    private static boolean isCode(int code) {
        return code >= 0 && code < CODES;
    }

    private static boolean isNumber(int n) {
        return n >= 0 && n < NUMBERS;
    }

    private boolean hasLines(int open) {
        return open != NONE && tariffs[open].lines > 0;
    }

    /** Begins a run, for the first time or anew; told is what a NO told, 0 without one. */
    private int begin(Office office, int told) {
        Run run = office.run;
        run.number = office.firstUnknown();
        if (run.number == NUMBERS) {
            run.phase = IDLE;
            return 0;
        }
        int round = Math.max(office.pledge, told) / OFFICES + 1;
        run.ballot = OFFICES * round + office.place;
        office.pledge = run.ballot;
        run.phase = ASKING;
        run.called = Sets.pick(ALL_OFFICES & ~run.silenced, office.place);
        run.answered = 0;
        run.settles = run.own;
        run.broughtBallot = 0;
        return sendPhase(office, run.called);
    }

    private int sendPhase(Office office, int set) {
        Run run = office.run;
        for (int to = 0; to < OFFICES; to++) {
            if (Sets.has(set, to)) {
                int kind = run.phase == ASKING ? ASK : SETTLE;
                Letter letter = mail.post(kind, office.place, to);
                letter.ballot = run.ballot;
                letter.number = run.number;
                letter.content = run.phase == ASKING ? NONE : run.settles;
            }
        }
        return Integer.bitCount(set);
    }

    private int tellNeighbours(Office office, int n) {
        int sent = 0;
        for (int to = 0; to < OFFICES; to++) {
            if (Sets.areNeighbours(office.place, to)) {
                Letter letter = mail.post(TELL, office.place, to);
                letter.number = n;
                letter.content = office.known[n];
                sent++;
            }
        }
        return sent;
    }

    private int hearAsk(Office office, Letter ask) {
        if (ask.ballot < office.pledge) {
            return refuse(office, ask);
        }
        office.pledge = ask.ballot;
        Letter give = mail.post(GIVE, office.place, ask.from);
        give.ballot = ask.ballot;
        give.number = ask.number;
        give.broughtBallot = office.takenBallot[ask.number];
        give.broughtDraft = office.takenDraft[ask.number];
        return 1;
    }

    private int hearSettle(Office office, Letter settle) {
        if (settle.ballot < office.pledge) {
            return refuse(office, settle);
        }
        office.pledge = settle.ballot;
        office.takenBallot[settle.number] = settle.ballot;
        office.takenDraft[settle.number] = settle.content;
        Letter taken = mail.post(TAKEN, office.place, settle.from);
        taken.ballot = settle.ballot;
        taken.number = settle.number;
        return 1;
    }

    private int refuse(Office office, Letter letter) {
        Letter no = mail.post(NO, office.place, letter.from);
        no.ballot = letter.ballot;
        no.content = office.pledge;
        return 1;
    }

    private int hearGive(Office office, Letter give) {
        Run run = office.run;
        if (run.phase != ASKING || run.ballot != give.ballot) {
            return 0;
        }
        run.answered |= 1 << give.from;
        if (give.broughtBallot > run.broughtBallot) {
            run.broughtBallot = give.broughtBallot;
            run.settles = give.broughtDraft;
        }
        if (!Sets.isQuorum(run.answered)) {
            return 0;
        }
        run.phase = SETTLING;
        run.answered = 0;
        return sendPhase(office, run.called);
    }

    private int hearTaken(Office office, Letter taken) {
        Run run = office.run;
        if (run.phase != SETTLING || run.ballot != taken.ballot) {
            return 0;
        }
        run.answered |= 1 << taken.from;
        return Sets.isQuorum(run.answered) ? learn(office, run.number, run.settles) : 0;
    }

    private int hearNo(Office office, Letter no) {
        if (office.run.phase == IDLE || office.run.ballot != no.ballot) {
            return 0;
        }
        return begin(office, no.content);
    }

    private int learn(Office office, int number, int draft) {
        if (office.known[number] != NONE) {
            return 0;
        }
        office.known[number] = draft;
        Run run = office.run;
        if (run.phase == IDLE || run.number != number) {
            return 0;
        }
        if (draft == run.own) {
            run.phase = IDLE;
            return 0;
        }
        return begin(office, 0);
    }

    /** What the document says of sets of offices; a set is the sum of 2^office. */
    private static final class Sets {
        static boolean has(int set, int o) {
            return (set >> o & 1) != 0;
        }

        /** A set is a quorum exactly when eight offices can be picked out of it. */
        static boolean isQuorum(int set) {
            return pick(set, 0) != 0;
        }

        /** Two by two by two offices of a set, in the order that begins with office o; 0: none. */
        static int pick(int set, int o) {
            int picked = 0;
            int regions = 0;
            for (int k = 0; k < 3 && regions < 2; k++) {
                int part = pickInRegion(set, (o / 9 + k) % 3, o);
                if (part != 0) {
                    picked |= part;
                    regions++;
                }
            }
            return regions == 2 ? picked : 0;
        }

        static int pickInRegion(int set, int region, int o) {
            int picked = 0;
            int districts = 0;
            for (int k = 0; k < 3 && districts < 2; k++) {
                int part = pickInDistrict(set, 3 * region + (o / 3 + k) % 3, o);
                if (part != 0) {
                    picked |= part;
                    districts++;
                }
            }
            return districts == 2 ? picked : 0;
        }

        static int pickInDistrict(int set, int district, int o) {
            int picked = 0;
            int found = 0;
            for (int k = 0; k < 3 && found < 2; k++) {
                int office = 3 * district + (o + k) % 3;
                if ((set >> office & 1) != 0) {
                    picked |= 1 << office;
                    found++;
                }
            }
            return found == 2 ? picked : 0;
        }

        /** Whether two offices differ in one place only: in office, district or region. */
        static boolean areNeighbours(int a, int b) {
            int differ = 0;
            differ += a % 3 != b % 3 ? 1 : 0;
            differ += a / 3 % 3 != b / 3 % 3 ? 1 : 0;
            differ += a / 9 != b / 9 ? 1 : 0;
            return differ == 1;
        }
    }

    /** A draft with its lines. */
    private static final class Tariff {
        int day = 0;
        int lines = 0;
        final int[] codes = new int[LINES];
        final int[] cents = new int[LINES];

        boolean write(int code, int amount) {
            if (lines == LINES || lineOf(code) != NONE) {
                return false;
            }
            codes[lines] = code;
            cents[lines] = amount;
            lines++;
            return true;
        }

        int lineOf(int code) {
            for (int k = 0; k < lines; k++) {
                if (codes[k] == code) {
                    return k;
                }
            }
            return NONE;
        }
    }

    /** An office: what it keeps, and what it loses when it fails. */
    private static final class Office {
        final int place;
        int pledge = 0;
        final int[] takenBallot = new int[NUMBERS];
        final int[] takenDraft = new int[NUMBERS];
        final int[] known = new int[NUMBERS];
        boolean failed = false;
        int open = NONE;
        final Run run = new Run();

        Office(int place) {
            this.place = place;
            Arrays.fill(takenDraft, NONE);
            Arrays.fill(known, NONE);
        }

        int firstUnknown() {
            int n = 0;
            while (n < NUMBERS && known[n] != NONE) {
                n++;
            }
            return n;
        }
    }

    /** The run of an office; IDLE means that there is none. */
    private static final class Run {
        int phase = IDLE;
        int number = 0;
        int ballot = 0;
        int own = NONE;
        int called = 0;
        int answered = 0;
        int silenced = 0;
        int settles = NONE;
        int broughtBallot = 0;
    }

    /** A letter; content is a draft, or for a NO what was promised. */
    private static final class Letter {
        int kind = 0;
        int from = 0;
        int to = 0;
        int ballot = 0;
        int number = NONE;
        int content = NONE;
        int broughtBallot = 0;
        int broughtDraft = NONE;

        void address(int newKind, int newFrom, int newTo) {
            kind = newKind;
            from = newFrom;
            to = newTo;
            ballot = 0;
            number = NONE;
            content = NONE;
            broughtBallot = 0;
            broughtDraft = NONE;
        }
    }

    /** The letters that wait; all are made at once and used again. */
    private static final class Mail {
        final Letter[] row = new Letter[LETTERS];
        final Letter lost = new Letter();
        Letter taken = new Letter();
        int count = 0;

        Mail() {
            for (int i = 0; i < LETTERS; i++) {
                row[i] = new Letter();
            }
        }

        boolean holds(int i) {
            return i >= 0 && i < count;
        }

        /** The letter to be filled in; when the row is full, one that nobody reads. */
        Letter post(int kind, int from, int to) {
            Letter letter = lost;
            if (count < LETTERS) {
                letter = row[count];
                count++;
            }
            letter.address(kind, from, to);
            return letter;
        }

        Letter take(int i) {
            Letter out = row[i];
            count--;
            for (int k = i; k < count; k++) {
                row[k] = row[k + 1];
            }
            // What is taken out is still read while answers to it are posted, so the free
            // place gets the letter that was taken out before, not this one.
            row[count] = taken;
            taken = out;
            return out;
        }

        void copyToEnd(int i) {
            Letter letter = row[i];
            Letter copy = post(letter.kind, letter.from, letter.to);
            copy.ballot = letter.ballot;
            copy.number = letter.number;
            copy.content = letter.content;
            copy.broughtBallot = letter.broughtBallot;
            copy.broughtDraft = letter.broughtDraft;
        }
    }
}
