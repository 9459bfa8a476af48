import java.util.NoSuchElementException;

/**
 * The sentences of the document's "Description" that tell an edge, one after the other, from the
 * pages to the columns; a check begins with the name of the paragraph.
 */
public final class DescriptionTest {
    private static final Class<IllegalStateException> STATE = IllegalStateException.class;
    private static final Class<NoSuchElementException> ELEMENT = NoSuchElementException.class;
    private static final Checks CHECKS = new Checks();

    public static void main(String[] args) {
        pagesFollowFromWhatIsPresent();
        advertisementsSideBySide();
        numbersComeBack();
        advertisementsComeFirst();
        rankOfLateStories();
        rankOfEqualPriorities();
        lateStoriesStayOnTheirPage();
        laterPagesInTheirOrder();
        neverAnEarlierPage();
        startNeedsTwoRowsMoreThanTheHead();
        highestHead();
        startNeedsItsWidth();
        startInTheLastColumns();
        upperRowThenLeftColumn();
        depthEndsAtTheFirstTakenRow();
        linesThatJustFit();
        rowsAreRoundedUp();
        leastDepth();
        noLaterPageToGoOn();
        rowsBelowAPartStayFree();
        goesOnInOneColumn();
        goesOnOnTheFirstLaterPage();
        goesOnWithoutItsOwnPage();
        continuationThatJustFits();
        continuationThatJumps();
        continuationThatIsCut();
        continuationTakesRoom();
        linesAmongColumns();
        linesAmongColumnsBeforeAJump();
        lateStoryGoesOn();
        CHECKS.end();
    }

    private static void pagesAre(NewspaperMakeup x, String name, String... columns) {
        for (int at = 0; at < columns.length; at++) {
            int page = at / 5;
            int column = at % 5;
            StringBuilder got = new StringBuilder();
            for (int row = 0; row < 24; row++) {
                got.append(x.cell(page, column, row));
            }
            String due = columns[at] + "0".repeat(24 - columns[at].length());
            CHECKS.answers(name + ", column " + at, due, got::toString);
        }
    }

    private static void partIs(NewspaperMakeup x, String name, int story, int part, int... due) {
        for (int what = 0; what < due.length; what++) {
            int w = what;
            CHECKS.answers(name + ", what " + w, due[w], () -> x.part(story, part, w));
        }
    }

    private static void pagesFollowFromWhatIsPresent() {
        NewspaperMakeup x = new NewspaperMakeup();
        x.addStory(0, 2, 1, 4, 5);
        x.addAdvertisement(0, 0, 0, 1, 4, 1);
        pagesAre(x, "Pages: the story makes way", "1111", "255", "255");
        x.remove(false, 0);
        pagesAre(x, "Pages: and comes back", "255", "255", "");
        NewspaperMakeup y = new NewspaperMakeup();
        y.addStory(0, 1, 1, 4, 1);
        y.addStory(0, 1, 1, 2, 9);
        pagesAre(y, "Pages: not in the order of the calls", "255", "25555");
        y.change(0, 4, 9);
        pagesAre(y, "Pages: follow a change", "25555", "255");
    }

    private static void advertisementsSideBySide() {
        NewspaperMakeup x = new NewspaperMakeup();
        x.addAdvertisement(0, 1, 10, 2, 3, 1);
        int[][] apart = {{0, 0, 10, 1, 3}, {0, 3, 10, 1, 3}, {0, 1, 9, 2, 1}, {0, 1, 13, 2, 1},
            {0, 0, 9, 1, 1}, {0, 3, 13, 1, 1}, {1, 1, 10, 2, 3}};
        for (int at = 0; at < apart.length; at++) {
            int[] b = apart[at];
            CHECKS.answers("Advertisements: no cell in common", at + 1,
                    () -> x.addAdvertisement(b[0], b[1], b[2], b[3], b[4], 1));
        }
        int[][] common = {{0, 0, 8, 2, 3}, {0, 2, 8, 2, 3}, {0, 0, 12, 2, 3}, {0, 2, 12, 2, 3},
            {0, 0, 11, 5, 1}, {0, 2, 0, 1, 24}, {0, 1, 10, 2, 3}, {0, 0, 0, 5, 24}, {0, 1, 11, 1, 1}};
        for (int[] b : common) {
            NewspaperMakeup y = new NewspaperMakeup();
            y.addAdvertisement(0, 1, 10, 2, 3, 1);
            CHECKS.refuses("Advertisements: cells in common", STATE,
                    () -> y.addAdvertisement(b[0], b[1], b[2], b[3], b[4], 1));
            y.remove(false, 0);
            CHECKS.answers("Advertisements: not with a removed one", 1,
                    () -> y.addAdvertisement(b[0], b[1], b[2], b[3], b[4], 1));
        }
    }

    private static void numbersComeBack() {
        NewspaperMakeup x = new NewspaperMakeup();
        x.addStory(0, 1, 1, 1, 0);
        x.addAdvertisement(0, 4, 0, 1, 1, 1);
        x.save();
        x.addStory(0, 1, 1, 1, 0);
        x.addAdvertisement(0, 4, 1, 1, 1, 1);
        x.remove(true, 1);
        x.remove(false, 1);
        CHECKS.answers("Stories: not used again", 2, () -> x.addStory(0, 1, 1, 1, 0));
        CHECKS.answers("Advertisements: not used again", 2,
                () -> x.addAdvertisement(0, 4, 2, 1, 1, 1));
        x.undo();
        CHECKS.answers("Advertisements: used again after undo", 2,
                () -> x.addAdvertisement(0, 4, 3, 1, 1, 1));
        x.restore();
        CHECKS.answers("Stories: used again after restore", 1, () -> x.addStory(0, 1, 1, 1, 0));
        CHECKS.answers("Advertisements: used again after restore", 1,
                () -> x.addAdvertisement(0, 4, 3, 1, 1, 1));
        CHECKS.answers("Advertisements: with its own numbers", 3, () -> x.advertisement(1, 2));
    }

    private static void advertisementsComeFirst() {
        NewspaperMakeup x = new NewspaperMakeup();
        x.addStory(0, 1, 1, 2, 9);
        x.setLate(0, true);
        x.addAdvertisement(0, 0, 0, 5, 22, 1);
        CHECKS.answers("Placing: before a late story, too", 3, () -> x.fate(0));
        CHECKS.answers("Placing: the cell is the advertisement's", 100, () -> x.owner(0, 0, 0));
        x.remove(false, 0);
        x.addAdvertisement(0, 0, 0, 5, 21, 1);
        CHECKS.answers("Placing: three rows are left", 21, () -> x.part(0, 0, 2));
    }

    private static void rankOfLateStories() {
        NewspaperMakeup x = new NewspaperMakeup();
        x.addStory(0, 1, 1, 1, 9);
        x.addStory(0, 1, 1, 1, 0);
        x.addStory(0, 1, 1, 1, 0);
        x.addStory(0, 1, 1, 1, 1);
        x.setLate(2, true);
        CHECKS.answers("Placing: late comes before priority 9", 2, () -> x.ranked(0));
        x.setLate(3, true);
        CHECKS.answers("Placing: among late ones the priority", 3, () -> x.ranked(0));
        x.setLate(1, true);
        CHECKS.answers("Placing: then the number", 1, () -> x.ranked(1));
        CHECKS.answers("Placing: the last late one", 2, () -> x.ranked(2));
        CHECKS.answers("Placing: then those that are not", 0, () -> x.ranked(3));
    }

    private static void rankOfEqualPriorities() {
        NewspaperMakeup x = new NewspaperMakeup();
        for (int story = 0; story < 12; story++) {
            x.addStory(0, 1, 1, 1, 4);
        }
        for (int rank = 0; rank < 12; rank++) {
            int r = rank;
            CHECKS.answers("Placing: equal priorities", r, () -> x.ranked(r));
            CHECKS.answers("Placing: their ranks", r, () -> x.story(r, 8));
        }
        x.change(11, 4, 5);
        CHECKS.answers("Placing: one more goes first", 11, () -> x.ranked(0));
        CHECKS.answers("Placing: one less goes last", 0, () -> x.ranked(1));
        x.change(0, 4, 3);
        CHECKS.answers("Placing: the last rank", 11, () -> x.story(0, 8));
    }

    private static void lateStoriesStayOnTheirPage() {
        NewspaperMakeup x = new NewspaperMakeup();
        x.addAdvertisement(1, 0, 0, 5, 22, 1);
        x.addStory(1, 1, 1, 1, 0);
        CHECKS.answers("Placing: bumped", 2, () -> x.story(0, 9));
        x.setLate(0, true);
        CHECKS.answers("Placing: late, so left out", -1, () -> x.story(0, 9));
        x.change(0, 0, 2);
        CHECKS.answers("Placing: late on its own page", 2, () -> x.story(0, 9));
    }

    private static void laterPagesInTheirOrder() {
        NewspaperMakeup x = new NewspaperMakeup();
        x.addStory(0, 3, 3, 2, 0);
        for (int page = 0; page < 4; page++) {
            int p = page;
            CHECKS.answers("Placing: starts on page " + p, p, () -> x.story(0, 9));
            CHECKS.answers("Placing: its fate there", p == 0 ? 0 : 2, () -> x.fate(0));
            CHECKS.answers("Placing: the bumped ones", p == 0 ? 0 : 1, () -> x.count(3));
            x.addAdvertisement(page, 0, 4, 5, 16, 1);
        }
        CHECKS.answers("Placing: nowhere", 3, () -> x.fate(0));
        CHECKS.answers("Placing: one is left out", 1, () -> x.count(2));
        CHECKS.answers("Placing: none is bumped", 0, () -> x.count(3));
        CHECKS.answers("Placing: all lines are cut", 2, () -> x.story(0, 12));
        x.addStory(3, 1, 1, 1, 9);
        x.addAdvertisement(3, 0, 0, 5, 4, 1);
        x.change(1, 2, 3);
        CHECKS.answers("Placing: two are left out", 2, () -> x.count(2));
    }

    private static void neverAnEarlierPage() {
        NewspaperMakeup x = new NewspaperMakeup();
        x.addAdvertisement(3, 0, 0, 5, 24, 1);
        x.addStory(3, 1, 1, 1, 0);
        x.addStory(2, 2, 1, 60, 0);
        CHECKS.answers("Placing: page 3 has no later page", 3, () -> x.fate(0));
        CHECKS.answers("Parts: page 2 has none to go on", 1, () -> x.story(1, 10));
        CHECKS.answers("Parts: so lines are cut", 14, () -> x.story(1, 12));
    }

    private static void startNeedsTwoRowsMoreThanTheHead() {
        for (int headline = 1; headline <= 3; headline++) {
            NewspaperMakeup x = new NewspaperMakeup();
            int h = headline;
            x.addStory(0, 1, h, 2, 0);
            x.addAdvertisement(0, 0, 0, 5, 22 - h, 1);
            partIs(x, "Placing: just two rows", 0, 0, 0, 0, 22 - h, 1, h + 2, 2, 0, 0);
            x.addAdvertisement(0, 0, 22 - h, 5, 1, 1);
            CHECKS.answers("Placing: one row is missing", 1, () -> x.story(0, 9));
        }
        NewspaperMakeup y = new NewspaperMakeup();
        y.addStory(0, 1, 1, 1, 0);
        y.addAdvertisement(0, 0, 2, 5, 22, 1);
        CHECKS.answers("Placing: two rows even for one line", 1, () -> y.story(0, 9));
    }

    private static void highestHead() {
        NewspaperMakeup x = new NewspaperMakeup();
        x.addStory(3, 3, 3, 6, 0);
        x.setPhoto(0, 8, 2);
        x.addAdvertisement(3, 0, 15, 5, 9, 1);
        pagesAre(x, "Stories: head of 13 rows", "", "", "", "", "", "", "", "", "", "", "", "", "",
                "", "", "222333333334455111111111", "222333333334455111111111",
                "222333333334455111111111", "000000000000000111111111",
                "000000000000000111111111");
        x.addAdvertisement(3, 0, 14, 5, 1, 1);
        CHECKS.answers("Stories: 14 rows are not enough", 3, () -> x.fate(0));
        x.setPhoto(0, 8, 1);
        CHECKS.answers("Stories: but for a head of 12", 0, () -> x.fate(0));
    }

    private static void startNeedsItsWidth() {
        NewspaperMakeup x = new NewspaperMakeup();
        x.addStory(3, 3, 1, 1, 0);
        x.addAdvertisement(3, 2, 0, 1, 24, 1);
        CHECKS.answers("Placing: two and two columns are not three", 3, () -> x.fate(0));
        x.change(0, 1, 2);
        CHECKS.answers("Placing: but two", 0, () -> x.part(0, 0, 1));
        x.addAdvertisement(3, 0, 0, 1, 24, 1);
        CHECKS.answers("Placing: the last two", 3, () -> x.part(0, 0, 1));
        x.addAdvertisement(3, 4, 0, 1, 24, 1);
        CHECKS.answers("Placing: no two any more", 3, () -> x.fate(0));
        x.change(0, 1, 1);
        CHECKS.answers("Placing: but one", 1, () -> x.part(0, 0, 1));
    }

    private static void startInTheLastColumns() {
        for (int width = 1; width <= 3; width++) {
            NewspaperMakeup x = new NewspaperMakeup();
            int w = width;
            x.addStory(0, w, 1, 1, 0);
            x.addAdvertisement(0, 0, 0, 5 - w, 24, 1);
            partIs(x, "Placing: the last columns", 0, 0, 0, 5 - w, 0, w);
            x.addAdvertisement(0, 4, 2, 1, 20, 1);
            CHECKS.answers("Placing: no room in the last rows", 1, () -> x.story(0, 9));
        }
    }

    private static void upperRowThenLeftColumn() {
        NewspaperMakeup x = new NewspaperMakeup();
        x.addAdvertisement(0, 0, 0, 2, 1, 1);
        x.addAdvertisement(0, 2, 5, 3, 1, 1);
        x.addStory(0, 2, 1, 2, 0);
        partIs(x, "Placing: the upper row, though it's to the right", 0, 0, 0, 2, 0);
        x.setPhoto(0, 3, 0);
        partIs(x, "Placing: the first row that is high enough", 0, 0, 0, 0, 1);
        x.change(0, 1, 3);
        partIs(x, "Placing: below both", 0, 0, 0, 0, 6);
    }

    private static void depthEndsAtTheFirstTakenRow() {
        NewspaperMakeup x = new NewspaperMakeup();
        x.addAdvertisement(0, 2, 8, 1, 1, 1);
        x.addStory(0, 3, 1, 22, 0);
        partIs(x, "Parts: one taken cell ends the depth", 0, 0, 0, 0, 0, 3, 8, 18, 0, 1);
        CHECKS.answers("Parts: the rest jumps", 4, () -> x.part(0, 1, 5));
        CHECKS.answers("Parts: beside it is free", 0, () -> x.cell(0, 0, 8));
        x.change(0, 1, 2);
        partIs(x, "Parts: it ends at the last row of the page", 0, 0, 0, 0, 0, 2, 12, 22, 0, 0);
    }

    private static void linesThatJustFit() {
        for (int width = 1; width <= 3; width++) {
            NewspaperMakeup x = new NewspaperMakeup();
            int w = width;
            x.addAdvertisement(0, 0, 6, 5, 18, 1);
            x.addStory(0, w, 2, 4 * w, 0);
            partIs(x, "Parts: W times the depth", 0, 0, 0, 0, 0, w, 6, 4 * w, 0, 0);
            x.change(0, 3, 4 * w + 1);
            partIs(x, "Parts: one more", 0, 0, 0, 0, 0, w, 6, 3 * w, 0, 1);
            partIs(x, "Parts: and the others", 0, 1, 1, 0, 0, 1, w + 2, w + 1, 3 * w, 0);
            x.change(0, 3, 4 * w - 1);
            partIs(x, "Parts: one less", 0, 0, 0, 0, 0, w, w == 1 ? 5 : 6, 4 * w - 1, 0, 0);
        }
    }

    private static void rowsAreRoundedUp() {
        for (int width = 1; width <= 3; width++) {
            NewspaperMakeup x = new NewspaperMakeup();
            x.addStory(0, width, 1, 1, 0);
            for (int lines = 1; lines <= 9; lines++) {
                x.change(0, 3, lines);
                int rows = lines / width + (lines % width > 0 ? 1 : 0);
                CHECKS.answers("Parts: rows of " + lines + " lines, width " + width, 1 + rows,
                        () -> x.part(0, 0, 4));
            }
        }
    }

    private static void leastDepth() {
        for (int width = 1; width <= 3; width++) {
            NewspaperMakeup x = new NewspaperMakeup();
            int w = width;
            x.addAdvertisement(2, 0, 3, 5, 21, 1);
            x.addStory(2, w, 1, 2 * w + 1, 0);
            partIs(x, "Parts: depth 2 with a jump line", 0, 0, 2, 0, 0, w, 3, w, 0, 1);
            x.addAdvertisement(3, 0, 2, 5, 22, 1);
            partIs(x, "Parts: depth 2 without", 0, 0, 2, 0, 0, w, 3, 2 * w, 0, 0);
            CHECKS.answers("Parts: one line is cut", 1, () -> x.story(0, 12));
        }
    }

    private static void noLaterPageToGoOn() {
        NewspaperMakeup x = new NewspaperMakeup();
        x.addStory(3, 2, 3, 150, 0);
        partIs(x, "Parts: page 3 has no later one", 0, 0, 3, 0, 0, 2, 24, 42, 0, 0);
        CHECKS.answers("Parts: no jump line", 5, () -> x.cell(3, 1, 23));
        CHECKS.answers("Parts: the others are cut", 108, () -> x.story(0, 12));
        CHECKS.answers("Parts: no jump", 0, () -> x.count(4));
        CHECKS.answers("Parts: its fate", 1, () -> x.fate(0));
    }

    private static void rowsBelowAPartStayFree() {
        NewspaperMakeup x = new NewspaperMakeup();
        x.addStory(0, 3, 1, 4, 9);
        x.addStory(0, 3, 1, 3, 5);
        partIs(x, "Parts: the next one below it", 1, 0, 0, 0, 3, 3, 2, 3, 0, 0);
        x.change(0, 3, 3);
        partIs(x, "Parts: a row higher", 1, 0, 0, 0, 2, 3, 2, 3, 0, 0);
        pagesAre(x, "Parts: one below the other", "2525", "2525", "2525", "", "");
        x.change(0, 3, 5);
        CHECKS.answers("Parts: white is not free", 8, () -> x.cell(0, 2, 2));
    }

    private static void goesOnInOneColumn() {
        NewspaperMakeup x = new NewspaperMakeup();
        x.addAdvertisement(0, 0, 3, 5, 21, 1);
        x.addAdvertisement(1, 0, 0, 4, 24, 1);
        x.addAdvertisement(1, 4, 0, 1, 21, 1);
        x.addStory(0, 3, 1, 8, 0);
        partIs(x, "Parts: the last 3 rows of the last column", 0, 1, 1, 4, 21, 1, 3, 1, 3, 1);
        partIs(x, "Parts: then the rest", 0, 2, 2, 0, 0, 1, 5, 4, 4, 0);
        x.change(0, 3, 5 + 2);
        partIs(x, "Parts: 4 lines do not fit there", 0, 1, 1, 4, 21, 1, 3, 1, 3, 1);
        x.addAdvertisement(1, 4, 21, 1, 1, 1);
        partIs(x, "Parts: 2 rows are not enough", 0, 1, 2, 0, 0, 1, 5, 4, 3, 0);
    }

    private static void goesOnOnTheFirstLaterPage() {
        NewspaperMakeup x = new NewspaperMakeup();
        x.addStory(0, 1, 1, 30, 0);
        for (int page = 1; page < 4; page++) {
            partIs(x, "Parts: the first page", 0, 1, page, 0, 0, 1, 9, 8, 22, 0);
            x.addAdvertisement(page, 0, 0, 1, 1, 1);
            partIs(x, "Parts: the least row", 0, 1, page, 1, 0, 1, 9, 8, 22, 0);
            x.addAdvertisement(page, 1, 0, 4, 1, 1);
            partIs(x, "Parts: then the least column", 0, 1, page, 0, 1, 1, 9, 8, 22, 0);
            x.remove(false, 2 * page - 1);
            x.remove(false, 2 * page - 2);
            x.addStory(page, 1, 1, 1, 9);
            // The numbers of advertisements run out, so stories of three columns fill the page.
            fillPage(x, page);
        }
        CHECKS.answers("Parts: no page is left", 1, () -> x.story(0, 10));
        CHECKS.answers("Parts: 23 lines and no jump line", 23, () -> x.story(0, 11));
    }

    /** Fills a page that has a story of one line in its first column: 3 + 1 + 1 columns. */
    private static void fillPage(NewspaperMakeup x, int page) {
        int first = x.count(0);
        x.addStory(page, 3, 1, 69, 8);
        x.addStory(page, 1, 1, 23, 7);
        x.change(first - 1, 3, 23);
        CHECKS.answers("Parts: page " + page + " is full", 0, () -> x.cellCount(page, 0));
    }

    private static void goesOnWithoutItsOwnPage() {
        NewspaperMakeup x = new NewspaperMakeup();
        x.addAdvertisement(3, 0, 0, 5, 24, 1);
        x.addAdvertisement(2, 0, 10, 1, 1, 1);
        x.addStory(2, 1, 1, 100, 0);
        partIs(x, "Parts: it never goes on on the page of its start", 0, 0, 2, 0, 0, 1, 10, 9, 0, 0);
        CHECKS.answers("Parts: though there are free cells", 109, () -> x.cellCount(2, 0));
        CHECKS.answers("Parts: one part", 1, () -> x.story(0, 10));
    }

    private static NewspaperMakeup oneLineOnPage0() {
        NewspaperMakeup x = new NewspaperMakeup();
        x.addAdvertisement(0, 0, 3, 5, 21, 1);
        x.addAdvertisement(1, 0, 5, 5, 19, 1);
        x.addStory(0, 1, 1, 5, 0);
        return x;
    }

    private static void continuationThatJustFits() {
        NewspaperMakeup x = oneLineOnPage0();
        partIs(x, "Parts: depth minus 1", 0, 1, 1, 0, 0, 1, 5, 4, 1, 0);
        CHECKS.answers("Parts: no jump line there", 5, () -> x.cell(1, 0, 4));
        x.change(0, 3, 4);
        partIs(x, "Parts: a row for each line", 0, 1, 1, 0, 0, 1, 4, 3, 1, 0);
        CHECKS.answers("Parts: the row below stays free", 0, () -> x.cell(1, 0, 4));
        x.change(0, 3, 3);
        partIs(x, "Parts: three lines are the least that jump", 0, 1, 1, 0, 0, 1, 3, 2, 1, 0);
        x.change(0, 3, 2);
        CHECKS.answers("Parts: two do not jump", 1, () -> x.story(0, 10));
    }

    private static void continuationThatJumps() {
        NewspaperMakeup x = oneLineOnPage0();
        x.change(0, 3, 6);
        partIs(x, "Parts: one line more than depth minus 1", 0, 1, 1, 0, 0, 1, 5, 3, 1, 1);
        partIs(x, "Parts: two lines are left", 0, 2, 2, 0, 0, 1, 3, 2, 4, 0);
        pagesAre(x, "Parts: jump head, lines and jump line", "256" + "1".repeat(21),
                "000" + "1".repeat(21), "000" + "1".repeat(21), "000" + "1".repeat(21),
                "000" + "1".repeat(21), "75556" + "1".repeat(19), "00000" + "1".repeat(19),
                "00000" + "1".repeat(19), "00000" + "1".repeat(19), "00000" + "1".repeat(19),
                "755");
        CHECKS.answers("Parts: two jumps", 2, () -> x.count(4));
    }

    private static void continuationThatIsCut() {
        NewspaperMakeup x = oneLineOnPage0();
        x.addAdvertisement(2, 0, 2, 5, 22, 1);
        x.addAdvertisement(3, 0, 2, 5, 22, 1);
        x.change(0, 3, 6);
        partIs(x, "Parts: all rows below the jump head", 0, 1, 1, 0, 0, 1, 5, 4, 1, 0);
        CHECKS.answers("Parts: one line is cut", 1, () -> x.story(0, 12));
        CHECKS.refuses("Columns: the line that is cut", ELEMENT, () -> x.locate(0, 5));
        CHECKS.answers("Columns: the last that is not", 1004, () -> x.locate(0, 4));
        CHECKS.answers("Parts: its fate", 1, () -> x.fate(0));
    }

    private static void continuationTakesRoom() {
        NewspaperMakeup x = oneLineOnPage0();
        x.change(0, 4, 9);
        x.addStory(1, 1, 1, 2, 0);
        partIs(x, "Parts: the jumped part comes first", 1, 0, 1, 1, 0);
        x.change(1, 1, 3);
        partIs(x, "Parts: beside it", 1, 0, 1, 1, 0);
        x.change(0, 3, 3);
        x.addAdvertisement(1, 4, 0, 1, 5, 1);
        x.addAdvertisement(1, 3, 0, 1, 3, 1);
        CHECKS.answers("Parts: below it 2 rows are not enough", 2, () -> x.story(1, 9));
        x.change(0, 3, 2);
        CHECKS.answers("Parts: without the jump there is room", 1, () -> x.story(1, 9));
    }

    private static void linesAmongColumns() {
        String[][] due = {{"5", "8", "8"}, {"5", "5", "8"}, {"5", "5", "5"}, {"55", "58", "58"},
            {"55", "55", "58"}, {"55", "55", "55"}, {"555", "558", "558"}};
        for (int lines = 1; lines <= due.length; lines++) {
            NewspaperMakeup y = new NewspaperMakeup();
            y.addStory(0, 3, 1, lines, 0);
            String[] d = due[lines - 1];
            pagesAre(y, "Columns: " + lines + " lines", "2" + d[0], "2" + d[1], "2" + d[2]);
        }
        NewspaperMakeup x = new NewspaperMakeup();
        x.addStory(0, 3, 1, 7, 0);
        int[] places = {1, 2, 3, 101, 102, 201, 202};
        for (int line = 0; line < places.length; line++) {
            int l = line;
            CHECKS.answers("Columns: line " + l, places[l], () -> x.locate(0, l));
        }
        x.change(0, 1, 2);
        pagesAre(x, "Columns: 7 lines in 2 columns", "25555", "25558", "");
        CHECKS.answers("Columns: the first of the second column", 101, () -> x.locate(0, 4));
    }

    private static void linesAmongColumnsBeforeAJump() {
        NewspaperMakeup x = new NewspaperMakeup();
        x.addAdvertisement(0, 0, 4, 5, 20, 1);
        x.addStory(0, 3, 1, 10, 0);
        pagesAre(x, "Columns: equal above a jump line", "2556" + "1".repeat(20),
                "2556" + "1".repeat(20), "2556" + "1".repeat(20), "0000" + "1".repeat(20),
                "0000" + "1".repeat(20), "75555");
        int[] places = {1, 2, 101, 102, 201, 202, 1001, 1002, 1003, 1004};
        for (int line = 0; line < places.length; line++) {
            int l = line;
            CHECKS.answers("Columns: through the parts, line " + l, places[l],
                    () -> x.locate(0, l));
        }
        CHECKS.answers("Parts: the first line of the second part", 6, () -> x.part(0, 1, 6));
    }

    private static void lateStoryGoesOn() {
        NewspaperMakeup x = oneLineOnPage0();
        x.setLate(0, true);
        CHECKS.answers("Parts: a late story jumps, too", 2, () -> x.story(0, 10));
        CHECKS.answers("Parts: none of its lines is cut", 0, () -> x.fate(0));
    }
}
