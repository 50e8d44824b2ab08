/** The limits of drafts and lines (promises 2, 3), and of what they cost (promise 23). */
public final class EdgesOfDraftsTest {
    public static void main(String[] args) throws IllegalAccessException {
        Edge.all(EdgesOfDraftsTest.class);
    }

    static void draftOfNoOfficeBelow() {
        Edge.refusedEverywhere(x -> x.draft(-1, 0), Edge.NONE);
        Edge.refusedEverywhere(x -> x.draft(Integer.MIN_VALUE, 0), Edge.NONE);
    }

    static void draftOfNoOfficeAbove() {
        Edge.refusedEverywhere(x -> x.draft(27, 0), Edge.NONE);
        Edge.refusedEverywhere(x -> x.draft(Integer.MAX_VALUE, 0), Edge.NONE);
    }

    static void draftOfTheFirstAndTheLastOffice() {
        TripleHouse x = new TripleHouse();
        Due.is("draft(0, 5)", x.draft(0, 5), 0);
        Due.is("draft(26, 5)", x.draft(26, 5), 1);
        Due.yes("0 has it", x.line(0, 0, 0));
        Due.yes("26 has it", x.line(26, 0, 0));
    }

    static void draftOfNoDayBelow() {
        Edge.refusedEverywhere(x -> x.draft(2, -1), Edge.NONE);
        Edge.refusedEverywhere(x -> x.draft(2, Integer.MIN_VALUE), Edge.NONE);
    }

    static void draftOfNoDayAbove() {
        Edge.refusedEverywhere(x -> x.draft(2, 1000), Edge.NONE);
        Edge.refusedEverywhere(x -> x.draft(2, Integer.MAX_VALUE), Edge.NONE);
    }

    static void draftOfDayZero() {
        TripleHouse x = new TripleHouse();
        Due.is("draft(4, 0)", x.draft(4, 0), 0);
        x.line(4, 1, 11);
        x.propose(4);
        Steps.deliverAll(x);
        Due.is("valid from day 0", x.rate(4, 1, 0, 1), 11);
    }

    static void draftOfDay999() {
        TripleHouse x = new TripleHouse();
        Due.is("draft(4, 999)", x.draft(4, 999), 0);
        x.line(4, 1, 11);
        x.propose(4);
        Steps.deliverAll(x);
        Due.is("not valid on day 998", x.rate(4, 1, 998, 1), -1);
        Due.is("valid from day 999", x.rate(4, 1, 999, 1), 11);
    }

    static void draftOfAFailedOffice() {
        Edge.refused(States::busy, x -> x.draft(20, 0), Edge.NONE);
    }

    static void draftOfAnOfficeThatIsBack() {
        TripleHouse x = Edge.after(States::busy);
        x.restart(20);
        Due.is("draft(20, 0)", x.draft(20, 0), 4);
    }

    private static void drafts(TripleHouse x, int count) {
        for (int k = 0; k < count; k++) {
            x.draft(k % 27, k);
        }
    }

    static void fortiethDraft() {
        TripleHouse x = new TripleHouse();
        drafts(x, 39);
        Due.is("the fortieth", x.draft(26, 0), 39);
        Due.yes("is there", x.line(26, 0, 0));
        x.propose(26);
        Due.is("and can be proposed", x.run(26, 3), 39);
    }

    static void draftBehindForty() {
        Edge.refused(x -> drafts(x, 40), x -> x.draft(26, 0), Edge.NONE);
        Edge.refused(x -> drafts(x, 40), x -> x.draft(0, 0), Edge.NONE);
    }

    /** Drafts that were replaced, or are gone, or were settled, are among the forty. */
    static void fortyDraftsOfAllFates() {
        TripleHouse x = new TripleHouse();
        Steps.settle(x, 4, 0, 0, 0);
        x.draft(5, 0);
        x.crash(5);
        x.restart(5);
        for (int k = 2; k < 40; k++) {
            Due.is("draft in place of another", x.draft(4, k), k);
        }
        Due.is("no more", x.draft(5, 0), -1);
        Due.is("nor in place of another", x.draft(4, 0), -1);
    }

    /** "a call that is refused changes nothing": the draft that stands is not replaced. */
    static void refusedDraftReplacesNothing() {
        TripleHouse x = Edge.after(States::busy);
        x.draft(2, 1000);
        x.draft(2, -1);
        Due.no("its line is still there", x.line(2, 5, 1));
        Due.is("propose(2)", x.propose(2), 0);
        Due.is("the draft of before", x.run(2, 3), 3);
    }

    static void draftInPlaceOfOneNotProposed() {
        TripleHouse x = Edge.after(States::busy);
        Due.is("draft(2, 50)", x.draft(2, 50), 4);
        Due.fails("it is empty", () -> x.propose(2), Due.ILLEGAL_ARGUMENT);
        Due.yes("codes of the old one are free", x.line(2, 5, 1));
        x.propose(2);
        Due.is("the new one is proposed", x.run(2, 3), 4);
    }

    static void draftBesideOneThatIsProposed() {
        TripleHouse x = Edge.after(States::asking);
        Due.is("draft(0, 1)", x.draft(0, 1), 1);
        x.line(0, 1, 1);
        Due.is("the run keeps its own", x.run(0, 3), 0);
        Steps.deliverAll(x);
        Due.is("what is settled", x.decided(0, 0), 0);
        Due.is("then the next one", x.propose(0), 1);
        Due.is("its own", x.run(0, 3), 1);
    }

    static void lineOfNoOfficeBelow() {
        Edge.refusedEverywhere(x -> Edge.num(x.line(-1, 0, 0)), Edge.REFUSED);
    }

    static void lineOfNoOfficeAbove() {
        Edge.refusedEverywhere(x -> Edge.num(x.line(27, 0, 0)), Edge.REFUSED);
    }

    static void lineWithoutADraft() {
        Edge.refusedEverywhere(x -> Edge.num(x.line(13, 0, 0)), Edge.REFUSED);
    }

    static void lineToADraftThatIsProposed() {
        Edge.refused(States::busy, x -> Edge.num(x.line(0, 9, 9)), Edge.REFUSED);
    }

    static void lineToADraftThatIsSettled() {
        Edge.refused(States::busy, x -> Edge.num(x.line(4, 9, 9)), Edge.REFUSED);
    }

    static void lineToADraftThatIsGone() {
        TripleHouse x = Edge.after(States::busy);
        x.crash(2);
        Due.no("failed", x.line(2, 9, 9));
        x.restart(2);
        Due.no("back, but without its draft", x.line(2, 9, 9));
    }

    static void lineOfNoCodeBelow() {
        Edge.refused(States::busy, x -> Edge.num(x.line(2, -1, 1)), Edge.REFUSED);
        Edge.refused(States::busy, x -> Edge.num(x.line(2, Integer.MIN_VALUE, 1)), Edge.REFUSED);
    }

    static void lineOfNoCodeAbove() {
        Edge.refused(States::busy, x -> Edge.num(x.line(2, 10, 1)), Edge.REFUSED);
        Edge.refused(States::busy, x -> Edge.num(x.line(2, Integer.MAX_VALUE, 1)), Edge.REFUSED);
    }

    static void linesOfCodesZeroAndNine() {
        TripleHouse x = Edge.after(States::busy);
        Due.yes("code 0", x.line(2, 0, 1));
        Due.yes("code 9", x.line(2, 9, 1));
    }

    static void lineOfCentsBelow() {
        Edge.refused(States::busy, x -> Edge.num(x.line(2, 1, -1)), Edge.REFUSED);
        Edge.refused(States::busy, x -> Edge.num(x.line(2, 1, Integer.MIN_VALUE)), Edge.REFUSED);
    }

    static void lineOfCentsAbove() {
        Edge.refused(States::busy, x -> Edge.num(x.line(2, 1, 10000)), Edge.REFUSED);
        Edge.refused(States::busy, x -> Edge.num(x.line(2, 1, Integer.MAX_VALUE)), Edge.REFUSED);
    }

    static void linesOfCents0And9999() {
        TripleHouse x = Edge.after(States::busy);
        Due.yes("0 cents", x.line(2, 0, 0));
        Due.yes("9999 cents", x.line(2, 9, 9999));
    }

    static void lineOfACodeThatIsThere() {
        Edge.refused(States::busy, x -> Edge.num(x.line(2, 5, 1)), Edge.REFUSED);
        Edge.refused(States::busy, x -> Edge.num(x.line(2, 6, 66)), Edge.REFUSED);
    }

    static void centsStayWhenTheCodeIsThere() {
        TripleHouse x = new TripleHouse();
        Steps.open(x, 4, 0, 7, 70);
        x.line(4, 7, 71);
        x.propose(4);
        Steps.deliverAll(x);
        Due.is("the first cents", x.rate(4, 7, 0, 1), 70);
    }

    private static void fourLines(TripleHouse x) {
        x.draft(4, 0);
        for (int code = 0; code < 4; code++) {
            x.line(4, code, 10 + code);
        }
    }

    static void fourthLine() {
        TripleHouse x = new TripleHouse();
        Steps.open(x, 4, 0, 0, 0);
        x.line(4, 1, 1);
        x.line(4, 2, 2);
        Due.no("one is refused", x.line(4, 2, 3));
        Due.yes("which takes no place", x.line(4, 3, 33));
        x.propose(4);
        Steps.deliverAll(x);
        Due.is("it counts", x.rate(4, 3, 0, 1), 33);
    }

    static void fifthLine() {
        Edge.refused(EdgesOfDraftsTest::fourLines, x -> Edge.num(x.line(4, 4, 4)), Edge.REFUSED);
        Edge.refused(EdgesOfDraftsTest::fourLines, x -> Edge.num(x.line(4, 0, 4)), Edge.REFUSED);
    }

    static void fifthLineCostsNothing() {
        TripleHouse x = Edge.after(EdgesOfDraftsTest::fourLines);
        x.line(4, 4, 4);
        x.propose(4);
        Steps.deliverAll(x);
        for (int code = 0; code < 4; code++) {
            Due.is("code " + code, x.rate(4, code, 0, 1), 10 + code);
        }
        Due.is("code 4", x.rate(4, 4, 0, 1), -1);
    }

    /** "the draft that office o began last": the lines of others' drafts do not count. */
    static void sameCodeInAnotherOfficesDraft() {
        TripleHouse x = Edge.after(States::busy);
        x.draft(3, 0);
        Due.yes("code 5", x.line(3, 5, 1));
        Due.yes("two more", x.line(3, 6, 1));
        Due.yes("three", x.line(3, 7, 1));
        Due.yes("four", x.line(3, 8, 1));
        Due.no("five", x.line(3, 9, 1));
        Due.yes("the other draft has room", x.line(2, 9, 1));
    }

    private static void rate(Edge.Calls state, int o, int code, int day, int n, int want) {
        Due.is("rate(" + o + ", " + code + ", " + day + ", " + n + ")", Edge.after(state).rate(o, code, day, n), want);
    }

    static void rateOfNoOfficeBelow() {
        rate(States::busy, -1, 3, 999, 0, -1);
        rate(States::busy, -1, 3, 999, 1, -1);
    }

    static void rateOfNoOfficeAbove() {
        rate(States::busy, 27, 3, 999, 0, -1);
        rate(States::busy, 27, 3, 999, 1, -1);
    }

    static void rateOfNoCodeBelow() {
        rate(States::busy, 4, -1, 999, 1, -1);
    }

    static void rateOfNoCodeAbove() {
        rate(States::busy, 4, 10, 999, 1, -1);
    }

    /** A line that is not written must not answer as code 0 for 0 cents. */
    static void rateOfACodeWithoutALine() {
        for (int code = 0; code < 10; code++) {
            rate(States::busy, 4, code, 999, 1, code == 3 ? 250 : -1);
        }
    }

    static void rateOfZeroCentsIsZero() {
        rate(x -> States.knowing(x, 1), 4, 0, 0, 1, 0);
    }

    static void rateOnNoDayBelow() {
        rate(x -> States.knowing(x, 1), 4, 0, -1, 1, -1);
        rate(x -> States.knowing(x, 1), 4, 0, Integer.MIN_VALUE, 1, -1);
    }

    static void rateOnNoDayAbove() {
        rate(States::busy, 4, 3, 1000, 1, -1);
        rate(States::busy, 4, 3, Integer.MAX_VALUE, 1, -1);
    }

    static void rateOnDay999() {
        rate(States::busy, 4, 3, 999, 1, 250);
    }

    /** "valid from the day or before". */
    static void rateOnTheFirstDayAndTheDayBefore() {
        rate(States::busy, 4, 3, 9, 1, -1);
        rate(States::busy, 4, 3, 10, 1, 250);
        rate(States::busy, 4, 3, 11, 1, 250);
    }

    static void rateByNoTariffs() {
        rate(States::busy, 4, 3, 999, 0, -1);
        rate(States::fresh, 4, 3, 999, 0, -1);
    }

    static void rateByFewerThanNoTariffs() {
        rate(States::busy, 4, 3, 999, -1, -1);
        rate(States::busy, 4, 3, 999, Integer.MIN_VALUE, -1);
    }

    static void rateByMoreThanItKnows() {
        rate(States::busy, 4, 3, 999, 2, -1);
        rate(States::busy, 4, 3, 999, Integer.MAX_VALUE, -1);
        rate(States::fresh, 4, 3, 999, 1, -1);
    }

    static void rateByAllSix() {
        Edge.Calls six = x -> States.knowing(x, 6);
        for (int n = 0; n < 6; n++) {
            rate(six, 4, n, 999, 6, n);
        }
        rate(six, 4, 5, 999, 5, -1);
        rate(six, 4, 5, 999, 7, -1);
    }

    /** Office 1 knows number 1 alone, then number 0 too. */
    static void rateBehindAGap() {
        TripleHouse x = Edge.after(y -> States.knowing(y, 2));
        x.spread(4);
        x.deliver(6);
        Due.is("number 1 is known", x.decided(1, 1), 1);
        Due.is("by the first 2", x.rate(1, 1, 999, 2), -1);
        Due.is("by the first 1", x.rate(1, 1, 999, 1), -1);
        Due.is("by none", x.rate(1, 1, 999, 0), -1);
        x.deliver(0);
        Due.is("without the gap", x.rate(1, 1, 999, 2), 1);
    }

    private static void oneCode(TripleHouse x, int firstDay, int secondDay) {
        Steps.settle(x, 4, firstDay, 0, 10);
        Steps.settle(x, 4, secondDay, 0, 20);
    }

    static void rateOfALaterDayUnderALowerNumber() {
        rate(x -> oneCode(x, 8, 7), 4, 0, 8, 2, 10);
        rate(x -> oneCode(x, 8, 7), 4, 0, 7, 2, 20);
    }

    static void rateOfALaterDayUnderAGreaterNumber() {
        rate(x -> oneCode(x, 7, 8), 4, 0, 8, 2, 20);
        rate(x -> oneCode(x, 7, 8), 4, 0, 7, 2, 10);
    }

    static void rateOfOneDayUnderTheGreatestNumber() {
        rate(x -> oneCode(x, 7, 7), 4, 0, 7, 2, 20);
        rate(x -> oneCode(x, 7, 7), 4, 0, 7, 1, 10);
        rate(x -> oneCode(x, 0, 0), 4, 0, 0, 2, 20);
    }

    static void rateAsTheOfficeItselfKnows() {
        rate(States::busy, 5, 3, 999, 1, -1);
    }

    static void rateOfAFailedOffice() {
        TripleHouse x = Edge.after(States::busy);
        x.crash(4);
        Due.is("it keeps what it knows", x.rate(4, 3, 999, 1), 250);
    }
}
