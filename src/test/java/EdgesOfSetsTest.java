/** The limits of what covers, of quorums and least ones (promises 15, 16), and of the choice. */
public final class EdgesOfSetsTest {
    private static final int ALL = (1 << 27) - 1;
    private static final int BEYOND = ~ALL;
    private static final int[] PAIRS = {3, 5, 6};
    private static final int EIGHT = Steps.set(0, 1, 3, 4, 9, 10, 12, 13);

    public static void main(String[] args) throws IllegalAccessException {
        Edge.all(EdgesOfSetsTest.class);
    }

    /** A set of the same shape in each of some regions: in each of some districts some offices. */
    private static int shape(int regions, int districts, int offices) {
        int set = 0;
        for (int o = 0; o < 27; o++) {
            if ((regions >> o / 9 & districts >> o / 3 % 3 & offices >> o % 3 & 1) != 0) {
                set |= 1 << o;
            }
        }
        return set;
    }

    private static void quorum(int set, boolean want) {
        Due.is("quorum(" + set + ")", Edge.num(new TripleHouse().quorum(set)), Edge.num(want));
    }

    private static void least(int set, int want) {
        Due.is("least(" + set + ")", new TripleHouse().least(set), want);
    }

    static void districtCoveredByAnyTwoOffices() {
        for (int pair : PAIRS) {
            quorum(shape(3, 3, pair), true);
        }
    }

    static void districtCoveredByThreeOffices() {
        quorum(shape(3, 3, 7), true);
    }

    static void districtNotCoveredByOneOffice() {
        for (int one = 1; one <= 4; one *= 2) {
            quorum(shape(7, 7, one), false);
        }
    }

    static void regionCoveredByAnyTwoDistricts() {
        for (int pair : PAIRS) {
            quorum(shape(3, pair, 3), true);
        }
    }

    static void regionCoveredByThreeDistricts() {
        quorum(shape(3, 7, 3), true);
    }

    static void regionNotCoveredByOneDistrict() {
        for (int one = 1; one <= 4; one *= 2) {
            quorum(shape(7, one, 7), false);
        }
    }

    static void regionNotCoveredByOneDistrictAndSingleOffices() {
        for (int one = 1; one <= 4; one *= 2) {
            quorum(shape(7, one, 7) | shape(7, 7, 2), false);
        }
    }

    static void quorumOfAnyTwoRegions() {
        for (int pair : PAIRS) {
            quorum(shape(pair, 3, 3), true);
        }
    }

    static void quorumOfThreeRegions() {
        quorum(shape(7, 3, 3), true);
    }

    static void noQuorumOfOneRegion() {
        for (int one = 1; one <= 4; one *= 2) {
            quorum(shape(one, 7, 7), false);
        }
    }

    static void noQuorumOfOneRegionAndHalvesOfOthers() {
        quorum(shape(1, 7, 7) | shape(6, 2, 7) | shape(6, 7, 1), false);
    }

    static void noQuorumWithoutAnyOneOfEight() {
        for (int o = 0; o < 27; o++) {
            if ((EIGHT >> o & 1) != 0) {
                quorum(EIGHT & ~(1 << o), false);
            }
        }
    }

    static void quorumOfTheEmptySet() {
        quorum(0, false);
    }

    static void quorumOfAll() {
        quorum(ALL, true);
    }

    static void furtherBitsMakeNoQuorum() {
        quorum(BEYOND, false);
        quorum(Integer.MIN_VALUE, false);
        quorum(EIGHT & ~1 | BEYOND, false);
        quorum(shape(1, 7, 7) | BEYOND, false);
    }

    static void furtherBitsHinderNoQuorum() {
        quorum(EIGHT | BEYOND, true);
        quorum(-1, true);
        quorum(EIGHT | Integer.MIN_VALUE, true);
    }

    static void leastOfTheEmptySet() {
        least(0, 0);
    }

    static void leastOfNoQuorum() {
        least(shape(1, 7, 7), 0);
        least(shape(7, 1, 7), 0);
        least(shape(7, 7, 1), 0);
        least(EIGHT & ~(1 << 13), 0);
    }

    static void leastOfExactlyEight() {
        for (int regions : PAIRS) {
            for (int districts : PAIRS) {
                for (int offices : PAIRS) {
                    int set = shape(regions, districts, offices);
                    least(set, set);
                }
            }
        }
    }

    static void leastOfAll() {
        least(ALL, EIGHT);
    }

    static void leastHasEightOfNine() {
        least(EIGHT | 1 << 2, EIGHT);
        least(EIGHT | 1 << 26, EIGHT);
    }

    /** The sum counts, so the greatest office is to be as low as can be, then the next one. */
    static void leastSparesTheUpperOffices() {
        least(ALL & ~1, EIGHT & ~1 | 1 << 2);
        least(ALL & ~3, EIGHT & ~3 | 1 << 6 | 1 << 7);
        least(ALL & ~(1 << 13), EIGHT & ~(1 << 13) | 1 << 14);
        least(ALL & ~shape(1, 3, 3), shape(6, 3, 3));
        least(ALL & ~shape(2, 3, 3), shape(5, 3, 3));
    }

    static void leastWithoutFurtherBits() {
        least(-1, EIGHT);
        least(EIGHT | Integer.MIN_VALUE, EIGHT);
        least(BEYOND, 0);
        least(EIGHT & ~1 | BEYOND, 0);
    }

    private static void choice(int o, int want, int... silent) {
        TripleHouse x = new TripleHouse();
        Steps.start(x, o, 0, 0, 0);
        for (int p : silent) {
            x.silent(o, p);
        }
        Due.is("choice of " + o, x.asked(o, true), want);
    }

    static void choiceWithoutWrapAround() {
        choice(0, EIGHT);
        choice(13, Steps.set(13, 14, 16, 17, 22, 23, 25, 26));
    }

    /** "then the next ones (0 behind 2)": regions. */
    static void choiceGoesFromRegionTwoToRegionZero() {
        choice(18, shape(5, 3, 3));
    }

    static void choiceGoesFromRegionOneToRegionTwo() {
        choice(9, shape(6, 3, 3));
    }

    static void choiceGoesFromDistrictTwoToDistrictZero() {
        choice(6, shape(3, 5, 3));
    }

    static void choiceGoesFromOfficeTwoToOfficeZero() {
        choice(2, shape(3, 3, 5));
    }

    static void choiceOfTheLastOfficeWrapsAroundThreeTimes() {
        choice(26, shape(5, 5, 5));
    }

    /** The third one in the order is taken when the second one is not covered. */
    static void choiceSkipsTheNextRegion() {
        choice(18, shape(6, 3, 3), 0, 1, 3, 4);
    }

    static void choiceSkipsItsOwnRegion() {
        choice(18, shape(3, 3, 3), 18, 19, 21, 22);
    }

    static void choiceSkipsTheNextDistrict() {
        choice(6, shape(3, 5, 3) & ~Steps.set(0, 1) | Steps.set(3, 4), 0, 1);
    }

    static void choiceSkipsTheNextOffice() {
        choice(2, shape(3, 3, 5) & ~1 | 1 << 1, 0);
    }

    /** In other regions too, the order begins at o's place, not at the first district or office. */
    static void choiceBeginsAtThePlaceOfItsOfficeEverywhere() {
        choice(17, shape(6, 5, 5));
        choice(4, shape(3, 6, 6));
    }

    /** With one silent office a district is still covered, by the two others. */
    static void choiceKeepsADistrictOfTwo() {
        choice(0, EIGHT & ~1 | 1 << 2, 0);
    }

    static void choiceLeavesADistrictOfOne() {
        choice(0, EIGHT & ~3 | Steps.set(6, 7), 0, 2);
    }

    /** With one district not covered a region is still covered, by the two others. */
    static void choiceKeepsARegionOfTwoDistricts() {
        choice(0, shape(3, 6, 3) & shape(1, 7, 7) | EIGHT & shape(2, 7, 7), 0, 1);
    }

    static void choiceLeavesARegionOfOneDistrict() {
        choice(0, shape(6, 3, 3), 0, 1, 3, 4);
    }

    /** "There is none when not two regions are covered." */
    static void noChoiceWithOneRegion() {
        Edge.refused(States::noneToSpare, x -> x.silent(0, 13), Edge.STATE);
    }
}
