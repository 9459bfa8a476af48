import java.util.NoSuchElementException;

/** Promises 10 to 18: what is on the pages, and forecasts. */
public final class PagesTest {
    private static final Class<IndexOutOfBoundsException> INDEX = IndexOutOfBoundsException.class;
    private static final Class<IllegalArgumentException> ARGUMENT = IllegalArgumentException.class;
    private static final Class<NoSuchElementException> ELEMENT = NoSuchElementException.class;
    private static final int LOW = Integer.MIN_VALUE;
    private static final int HIGH = Integer.MAX_VALUE;
    private static final Checks CHECKS = new Checks();

    public static void main(String[] args) {
        cellsAndOwners();
        cellsOfJumps();
        wrongCells();
        parts();
        partsThatAreJustFull();
        goingOnNeedsThreeRows();
        startNeedsTwoRows();
        firstBlockOfAPage();
        lowestBlocks();
        narrowPlaceToGoOn();
        wrongParts();
        locate();
        ranked();
        fate();
        blamed();
        blamedIsTheGreatestRank();
        nobodyAloneIsToBlame();
        blamedFromAnotherPage();
        theLesserRankIsToBlame();
        linesIf();
        trim();
        trimOfOneThatFits();
        lastCell();
        linesIfAmongOthers();
        CHECKS.end();
    }

    private static void column(NewspaperMakeup x, String name, int page, int column, String kinds) {
        StringBuilder got = new StringBuilder();
        for (int row = 0; row < 24; row++) {
            got.append(x.cell(page, column, row));
        }
        CHECKS.answers(name, kinds, got::toString);
    }

    private static void cellsAndOwners() {
        NewspaperMakeup x = new NewspaperMakeup();
        x.addAdvertisement(0, 3, 21, 2, 3, 5);
        x.addStory(0, 3, 2, 8, 5);
        x.setPhoto(0, 3, 1);
        column(x, "10: column 0", 0, 0, "223334555000000000000000");
        column(x, "10: column 1", 0, 1, "223334555000000000000000");
        column(x, "10: column 2", 0, 2, "223334558000000000000000");
        column(x, "10: column 3", 0, 3, "000000000000000000000111");
        column(x, "10: column 4", 0, 4, "000000000000000000000111");
        CHECKS.answers("11: headline", 0, () -> x.owner(0, 2, 0));
        CHECKS.answers("11: white", 0, () -> x.owner(0, 2, 8));
        CHECKS.answers("11: advertisement", 100, () -> x.owner(0, 3, 21));
        CHECKS.refuses("11: free below", ELEMENT, () -> x.owner(0, 2, 9));
        CHECKS.refuses("11: free beside", ELEMENT, () -> x.owner(0, 3, 20));
        x.addAdvertisement(2, 4, 23, 1, 1, 1);
        CHECKS.answers("11: the second advertisement", 101, () -> x.owner(2, 4, 23));
        x.addStory(0, 1, 1, 1, 0);
        CHECKS.answers("11: the second story", 1, () -> x.owner(0, 3, 0));
    }

    private static void cellsOfJumps() {
        NewspaperMakeup x = new NewspaperMakeup();
        x.addAdvertisement(0, 0, 8, 5, 16, 1);
        x.addAdvertisement(1, 0, 5, 5, 19, 1);
        x.addAdvertisement(2, 0, 10, 5, 14, 1);
        x.addStory(0, 2, 1, 20, 5);
        column(x, "10: jumps, 0", 0, 0, "255555561111111111111111");
        column(x, "10: jumps, 1", 0, 1, "255555561111111111111111");
        column(x, "10: goes on and jumps", 1, 0, "755561111111111111111111");
        column(x, "10: ends", 2, 0, "755555000011111111111111");
        CHECKS.answers("11: jump line", 0, () -> x.owner(0, 1, 7));
        CHECKS.answers("11: jump head", 0, () -> x.owner(2, 0, 0));
    }

    private static void wrongCells() {
        NewspaperMakeup x = new NewspaperMakeup();
        int[][] wrong = {{-1, 0, 0}, {4, 0, 0}, {0, -1, 0}, {0, 5, 0}, {0, 0, -1}, {0, 0, 24},
            {LOW, 0, 0}, {HIGH, 0, 0}, {0, LOW, 0}, {0, HIGH, 0}, {0, 0, LOW}, {0, 0, HIGH}};
        for (int[] w : wrong) {
            CHECKS.refuses("10: no such cell", INDEX, () -> x.cell(w[0], w[1], w[2]));
            CHECKS.refuses("11: no such cell", INDEX, () -> x.owner(w[0], w[1], w[2]));
        }
        CHECKS.answers("10: last cell", 0, () -> x.cell(3, 4, 23));
        CHECKS.refuses("11: last cell", ELEMENT, () -> x.owner(3, 4, 23));
    }

    private static void part(NewspaperMakeup x, String name, int story, int part, int... due) {
        for (int what = 0; what < due.length; what++) {
            int w = what;
            CHECKS.answers(name + ", what " + w, due[w], () -> x.part(story, part, w));
        }
    }

    private static void parts() {
        NewspaperMakeup x = new NewspaperMakeup();
        x.addAdvertisement(0, 0, 0, 1, 24, 1);
        x.addAdvertisement(1, 0, 0, 5, 2, 1);
        x.addAdvertisement(1, 0, 20, 5, 4, 1);
        x.addStory(0, 3, 2, 90, 5);
        x.setPhoto(0, 4, 2);
        part(x, "12: start", 0, 0, 0, 1, 0, 3, 24, 45, 0, 1);
        part(x, "12: between", 0, 1, 1, 0, 2, 1, 18, 16, 45, 1);
        part(x, "12: between again", 0, 2, 2, 0, 0, 1, 24, 22, 61, 1);
        part(x, "12: end", 0, 3, 3, 0, 0, 1, 8, 7, 83, 0);
        CHECKS.answers("12: four parts", 4, () -> x.story(0, 10));
        CHECKS.refuses("12: no fifth", INDEX, () -> x.part(0, 4, 0));
    }

    private static void partsThatAreJustFull() {
        NewspaperMakeup x = new NewspaperMakeup();
        x.addStory(2, 2, 1, 46, 5);
        part(x, "12: just full", 0, 0, 2, 0, 0, 2, 24, 46, 0, 0);
        x.change(0, 3, 47);
        part(x, "12: one line more", 0, 0, 2, 0, 0, 2, 24, 44, 0, 1);
        part(x, "12: goes on", 0, 1, 3, 0, 0, 1, 4, 3, 44, 0);
        x.change(0, 3, 67);
        part(x, "12: continuation just full", 0, 1, 3, 0, 0, 1, 24, 23, 44, 0);
        x.change(0, 3, 68);
        part(x, "12: continuation too short", 0, 1, 3, 0, 0, 1, 24, 23, 44, 0);
        CHECKS.answers("12: one line is cut", 1, () -> x.story(0, 12));
        x.change(0, 0, 3);
        part(x, "12: no later page", 0, 0, 3, 0, 0, 2, 24, 46, 0, 0);
        x.change(0, 3, 1);
        part(x, "12: one line", 0, 0, 3, 0, 0, 2, 2, 1, 0, 0);
        CHECKS.answers("12: beside it is white", 8, () -> x.cell(3, 1, 1));
    }

    private static void goingOnNeedsThreeRows() {
        NewspaperMakeup x = new NewspaperMakeup();
        x.addAdvertisement(1, 0, 2, 5, 22, 1);
        x.addAdvertisement(2, 0, 3, 4, 21, 1);
        x.addAdvertisement(2, 0, 0, 1, 1, 1);
        x.addAdvertisement(3, 0, 0, 5, 24, 1);
        x.addStory(0, 1, 1, 30, 5);
        part(x, "12: jumps over page 1", 0, 0, 0, 0, 0, 1, 24, 22, 0, 1);
        part(x, "12: least block", 0, 1, 2, 1, 0, 1, 3, 2, 22, 0);
        CHECKS.answers("12: six lines cut", 6, () -> x.story(0, 12));
        x.remove(false, 3);
        part(x, "12: least block with a jump", 0, 1, 2, 1, 0, 1, 3, 1, 22, 1);
        part(x, "12: the rest", 0, 2, 3, 0, 0, 1, 8, 7, 23, 0);
    }

    private static void startNeedsTwoRows() {
        NewspaperMakeup x = new NewspaperMakeup();
        x.addAdvertisement(0, 0, 5, 5, 19, 1);
        x.addStory(0, 2, 3, 4, 5);
        part(x, "12: just two rows", 0, 0, 0, 0, 0, 2, 5, 4, 0, 0);
        x.setPhoto(0, 2, 0);
        part(x, "12: the photo pushes it on", 0, 0, 1, 0, 0, 2, 7, 4, 0, 0);
        x.setPhoto(0, 0, 0);
        x.addAdvertisement(0, 1, 4, 1, 1, 1);
        part(x, "12: a hole pushes it aside", 0, 0, 0, 2, 0, 2, 5, 4, 0, 0);
    }

    private static void firstBlockOfAPage() {
        NewspaperMakeup x = new NewspaperMakeup();
        x.addAdvertisement(0, 0, 0, 4, 1, 1);
        x.addStory(0, 1, 1, 2, 5);
        part(x, "12: the upper row counts first", 0, 0, 0, 4, 0, 1, 3, 2, 0, 0);
        x.change(0, 1, 2);
        part(x, "12: then the left column", 0, 0, 0, 0, 1, 2, 2, 2, 0, 0);
    }

    private static void lowestBlocks() {
        NewspaperMakeup x = new NewspaperMakeup();
        x.addAdvertisement(0, 0, 0, 5, 21, 1);
        x.addAdvertisement(1, 0, 0, 5, 21, 1);
        x.addAdvertisement(2, 0, 4, 5, 20, 1);
        x.addStory(0, 1, 1, 7, 5);
        part(x, "12: starts in the lowest rows", 0, 0, 0, 0, 21, 1, 3, 1, 0, 1);
        part(x, "12: goes on in the lowest rows", 0, 1, 1, 0, 21, 1, 3, 1, 1, 1);
        part(x, "12: goes on for 3 lines, then jumps", 0, 2, 2, 0, 0, 1, 4, 2, 2, 1);
        part(x, "12: ends", 0, 3, 3, 0, 0, 1, 4, 3, 4, 0);
        x.change(0, 3, 5);
        part(x, "12: just full, with a later page", 0, 2, 2, 0, 0, 1, 4, 3, 2, 0);
        x.change(0, 3, 4);
        part(x, "12: not full", 0, 2, 2, 0, 0, 1, 3, 2, 2, 0);
    }

    private static void narrowPlaceToGoOn() {
        NewspaperMakeup x = new NewspaperMakeup();
        x.addAdvertisement(1, 0, 0, 2, 24, 1);
        x.addAdvertisement(1, 3, 0, 2, 20, 1);
        x.addStory(0, 2, 1, 60, 5);
        part(x, "12: one free column is enough", 0, 1, 1, 2, 0, 1, 17, 16, 44, 0);
        x.addAdvertisement(1, 2, 10, 1, 10, 1);
        part(x, "12: as far as it is free", 0, 1, 1, 2, 0, 1, 10, 8, 44, 1);
        part(x, "12: and the rest", 0, 2, 2, 0, 0, 1, 9, 8, 52, 0);
    }

    private static void wrongParts() {
        NewspaperMakeup x = new NewspaperMakeup();
        x.addStory(0, 1, 1, 1, 0);
        for (int what : new int[] {-1, 8, LOW, HIGH}) {
            CHECKS.refuses("12: what", ARGUMENT, () -> x.part(0, 0, what));
            CHECKS.refuses("12: part first", INDEX, () -> x.part(0, 1, what));
            CHECKS.refuses("12: story first", INDEX, () -> x.part(1, 0, what));
        }
        for (int part : new int[] {-1, 1, 4, LOW, HIGH}) {
            CHECKS.refuses("12: no such part", INDEX, () -> x.part(0, part, 0));
        }
        for (int story : new int[] {-1, 1, 12, LOW, HIGH}) {
            CHECKS.refuses("12: no such story", INDEX, () -> x.part(story, 0, 0));
            CHECKS.refuses("13: no such story", INDEX, () -> x.locate(story, 0));
        }
        x.addAdvertisement(3, 0, 0, 5, 24, 1);
        x.addStory(3, 1, 1, 1, 0);
        CHECKS.refuses("12: left out, so no part", INDEX, () -> x.part(1, 0, 0));
    }

    private static void locate() {
        NewspaperMakeup x = new NewspaperMakeup();
        x.addAdvertisement(0, 0, 0, 2, 24, 1);
        x.addAdvertisement(0, 2, 8, 3, 16, 1);
        x.addAdvertisement(1, 0, 4, 5, 20, 1);
        x.addAdvertisement(2, 0, 0, 5, 20, 1);
        x.addStory(0, 3, 1, 11, 5);
        int[] due = {201, 202, 203, 204, 301, 302, 303, 304, 401, 402, 403};
        for (int line = 0; line < due.length; line++) {
            int l = line;
            CHECKS.answers("13: line " + l, due[l], () -> x.locate(0, l));
        }
        x.change(0, 3, 25);
        CHECKS.answers("13: last before the jump", 406, () -> x.locate(0, 17));
        CHECKS.answers("13: first after it", 1001, () -> x.locate(0, 18));
        CHECKS.answers("13: last before the next jump", 1002, () -> x.locate(0, 19));
        CHECKS.answers("13: first after that", 2021, () -> x.locate(0, 20));
        CHECKS.answers("13: and the page after", 3001, () -> x.locate(0, 22));
        x.addAdvertisement(3, 0, 0, 5, 24, 1);
        CHECKS.answers("13: last line that is not cut", 2023, () -> x.locate(0, 22));
        CHECKS.refuses("13: cut", ELEMENT, () -> x.locate(0, 23));
        CHECKS.refuses("13: cut, last", ELEMENT, () -> x.locate(0, 24));
        for (int line : new int[] {-1, 25, LOW, HIGH}) {
            CHECKS.refuses("13: no line " + line, INDEX, () -> x.locate(0, line));
        }
        x.addStory(3, 1, 1, 2, 5);
        CHECKS.refuses("13: left out", ELEMENT, () -> x.locate(1, 1));
        CHECKS.refuses("13: left out, no such line", INDEX, () -> x.locate(1, 2));
    }

    private static void ranked() {
        NewspaperMakeup x = new NewspaperMakeup();
        int[] priorities = {3, 9, 3, 0, 9, 5};
        for (int priority : priorities) {
            x.addStory(0, 1, 1, 1, priority);
        }
        x.setLate(3, true);
        x.setLate(5, true);
        int[] due = {5, 3, 1, 4, 0, 2};
        for (int rank = 0; rank < due.length; rank++) {
            int r = rank;
            CHECKS.answers("14: rank " + r, due[r], () -> x.ranked(r));
            CHECKS.answers("8: its rank", r, () -> x.story(due[r], 8));
        }
        x.remove(true, 1);
        CHECKS.answers("14: the next moves up", 4, () -> x.ranked(2));
        for (int rank : new int[] {-1, 5, 12, LOW, HIGH}) {
            CHECKS.refuses("14: no rank " + rank, INDEX, () -> x.ranked(rank));
        }
    }

    private static void fate() {
        NewspaperMakeup x = new NewspaperMakeup();
        x.addStory(3, 3, 1, 69, 9);
        x.addStory(3, 2, 1, 60, 8);
        x.addStory(3, 1, 1, 1, 7);
        x.addAdvertisement(2, 0, 0, 5, 24, 1);
        x.addStory(2, 1, 1, 1, 6);
        CHECKS.answers("15: all lines", 0, () -> x.fate(0));
        CHECKS.answers("15: lines are cut", 1, () -> x.fate(1));
        CHECKS.answers("15: left out", 3, () -> x.fate(2));
        CHECKS.answers("15: left out, too", 3, () -> x.fate(3));
        x.change(1, 3, 47);
        CHECKS.answers("15: one line is cut", 1, () -> x.fate(1));
        x.change(1, 3, 46);
        CHECKS.answers("15: none is cut", 0, () -> x.fate(1));
        x.remove(true, 0);
        CHECKS.answers("15: bumped", 2, () -> x.fate(3));
        x.change(3, 3, 150);
        CHECKS.answers("15: bumped and cut", 2, () -> x.fate(3));
        x.setLate(3, true);
        CHECKS.answers("15: a late story is not bumped", 3, () -> x.fate(3));
        for (int story : new int[] {-1, 0, 4, 12, LOW, HIGH}) {
            CHECKS.refuses("15: no story " + story, INDEX, () -> x.fate(story));
        }
    }

    private static void blamed() {
        NewspaperMakeup x = new NewspaperMakeup();
        x.addStory(0, 3, 1, 69, 9);
        x.addStory(0, 2, 1, 46, 8);
        x.addStory(0, 3, 1, 10, 7);
        CHECKS.refuses("16: starts on its own page", ELEMENT, () -> x.blamed(1));
        CHECKS.answers("16: bumped", 2, () -> x.fate(2));
        CHECKS.answers("16: the wide one is to blame", 0, () -> x.blamed(2));
        x.change(2, 1, 2);
        CHECKS.answers("16: of two the later one", 1, () -> x.blamed(2));
        x.addAdvertisement(2, 0, 0, 5, 24, 1);
        x.addStory(2, 1, 1, 1, 0);
        CHECKS.refuses("16: no story is to blame", ELEMENT, () -> x.blamed(3));
        x.setLate(2, true);
        x.setLate(1, true);
        x.setLate(0, true);
        CHECKS.answers("16: left out", 3, () -> x.fate(2));
        CHECKS.answers("16: one left out has one to blame, too", 1, () -> x.blamed(2));
        for (int story : new int[] {-1, 4, 12, LOW, HIGH}) {
            CHECKS.refuses("16: no story " + story, INDEX, () -> x.blamed(story));
        }
    }

    private static void blamedIsTheGreatestRank() {
        NewspaperMakeup x = new NewspaperMakeup();
        x.addAdvertisement(0, 3, 0, 2, 24, 1);
        x.addStory(0, 3, 1, 30, 1);
        x.addStory(0, 3, 1, 30, 9);
        x.addStory(0, 3, 1, 33, 5);
        // Story 0 has the last rank; the others fill rows 0 to 22 before it.
        CHECKS.answers("16: bumped by two", 2, () -> x.fate(0));
        CHECKS.answers("16: the one with the greatest rank", 2, () -> x.blamed(0));
        x.change(2, 4, 9);
        CHECKS.answers("16: of equal priority the later number", 2, () -> x.blamed(0));
        x.setLate(2, true);
        CHECKS.answers("16: the late one has the least rank", 1, () -> x.blamed(0));
        CHECKS.answers("16: asking changes nothing", 2, () -> x.ranked(0));
    }

    /** Story 2 needs five rows of the six; without one of the others the other takes their place. */
    private static void nobodyAloneIsToBlame() {
        NewspaperMakeup x = new NewspaperMakeup();
        x.addAdvertisement(3, 0, 6, 5, 18, 1);
        x.addStory(3, 3, 1, 6, 9);
        x.addStory(3, 3, 1, 6, 8);
        x.addStory(3, 3, 3, 1, 7);
        CHECKS.answers("16: left out", 3, () -> x.fate(2));
        CHECKS.refuses("16: none of two alone", ELEMENT, () -> x.blamed(2));
        x.remove(true, 0);
        CHECKS.answers("16: but the one that is left", 1, () -> x.blamed(2));
        x.remove(true, 1);
        CHECKS.refuses("16: now it starts there", ELEMENT, () -> x.blamed(2));
    }

    private static void blamedFromAnotherPage() {
        NewspaperMakeup x = new NewspaperMakeup();
        x.addAdvertisement(1, 1, 0, 4, 24, 1);
        x.addStory(1, 1, 3, 1, 0);
        x.addStory(0, 3, 1, 69 + 20, 9);
        CHECKS.answers("16: one that jumps to the page", 1, () -> x.blamed(0));
        x.change(1, 3, 69);
        CHECKS.refuses("16: it doesn't jump any more", ELEMENT, () -> x.blamed(0));
        x.addStory(0, 3, 1, 22, 5);
        x.change(2, 1, 1);
        x.addAdvertisement(0, 3, 0, 2, 24, 1);
        CHECKS.answers("16: one that is bumped to the page", 2, () -> x.fate(2));
        CHECKS.answers("16: it's that one, not the one that bumps it", 2, () -> x.blamed(0));
        x.setLate(2, true);
        CHECKS.refuses("16: late, so it isn't bumped there", ELEMENT, () -> x.blamed(0));
    }

    private static void theLesserRankIsToBlame() {
        NewspaperMakeup x = new NewspaperMakeup();
        x.addAdvertisement(3, 1, 0, 4, 24, 1);
        x.addAdvertisement(3, 0, 6, 1, 18, 1);
        x.addStory(3, 1, 1, 5, 5);
        x.addStory(3, 1, 1, 5, 5);
        CHECKS.answers("16: the first is to blame", 0, () -> x.blamed(1));
        CHECKS.refuses("16: it isn't bumped itself", ELEMENT, () -> x.blamed(0));
        x.setLate(1, true);
        CHECKS.answers("16: now the other way round", 1, () -> x.blamed(0));
        x.setLate(0, true);
        CHECKS.answers("16: and back", 0, () -> x.blamed(1));
        x.change(1, 2, 3);
        x.addAdvertisement(3, 0, 4, 1, 2, 1);
        CHECKS.refuses("16: the rows would not be enough", ELEMENT, () -> x.blamed(1));
    }

    private static void trimOfOneThatFits() {
        NewspaperMakeup x = new NewspaperMakeup();
        x.addStory(0, 3, 1, 1, 5);
        CHECKS.answers("18: one line", 0, () -> x.trim(0));
        int[][] due = {{1, 0}, {2, 0}, {66, 0}, {67, 0}, {68, 0}, {69, 0}, {70, 1}, {71, 2},
            {72, 3}, {150, 81}};
        for (int[] d : due) {
            x.change(0, 3, d[0]);
            CHECKS.answers("18: of " + d[0] + " lines", d[1], () -> x.trim(0));
        }
        x.change(0, 3, 150 - x.trim(0));
        CHECKS.answers("18: trimmed, it has one part", 1, () -> x.story(0, 10));
        CHECKS.answers("18: and no line is cut", 0, () -> x.story(0, 12));
        CHECKS.answers("18: and no more to trim", 0, () -> x.trim(0));
        x.setPhoto(0, 8, 2);
        CHECKS.answers("18: a photo takes ten rows", 30, () -> x.trim(0));
        x.setPhoto(0, 0, 0);
        x.addStory(0, 2, 1, 4, 9);
        CHECKS.answers("18: beside another one", 0, () -> x.trim(0));
        x.addStory(0, 3, 1, 6, 8);
        CHECKS.answers("18: below another one", 9, () -> x.trim(0));
    }

    private static void lastCell() {
        NewspaperMakeup x = new NewspaperMakeup();
        x.addAdvertisement(3, 0, 0, 4, 24, 1);
        x.addStory(3, 1, 1, 23, 0);
        CHECKS.answers("13: the last cell", 3423, () -> x.locate(0, 22));
        CHECKS.answers("10: the last cell", 5, () -> x.cell(3, 4, 23));
        CHECKS.answers("11: the last cell", 0, () -> x.owner(3, 4, 23));
        CHECKS.answers("13: the first line", 3401, () -> x.locate(0, 0));
        x.remove(true, 0);
        for (int number = 1; number < 12; number++) {
            x.addStory(0, 1, 1, 1, 9);
        }
        x.change(11, 0, 3);
        CHECKS.answers("11: the last story", 11, () -> x.owner(3, 4, 0));
    }

    /** A forecast for one story that would push the other aside; the other stays as it is. */
    private static void linesIfAmongOthers() {
        NewspaperMakeup x = new NewspaperMakeup();
        x.addAdvertisement(3, 2, 0, 3, 24, 1);
        x.addStory(3, 1, 1, 40, 9);
        x.addStory(3, 1, 1, 23, 8);
        x.addStory(3, 1, 1, 60, 7);
        CHECKS.answers("17: left out", 0, () -> x.linesIf(2, false));
        CHECKS.answers("17: late, with lines cut", 23, () -> x.linesIf(2, true));
        CHECKS.answers("17: the one with lines cut", 23, () -> x.linesIf(0, true));
        CHECKS.answers("17: the others stay", 46, () -> x.count(5));
        x.setLate(2, true);
        CHECKS.answers("17: now another one is left out", 0, () -> x.linesIf(1, false));
        CHECKS.answers("17: it would take the place of 0", 23, () -> x.linesIf(1, true));
        CHECKS.answers("17: it is not late", 0, () -> x.story(1, 7));
        CHECKS.answers("17: the late one, if it were not", 0, () -> x.linesIf(2, false));
        CHECKS.answers("17: it is late", 1, () -> x.story(2, 7));
        x.change(0, 0, 0);
        CHECKS.answers("17: with jumps", 40, () -> x.linesIf(0, false));
        CHECKS.answers("17: with jumps, late", 40, () -> x.linesIf(0, true));
    }

    private static void linesIf() {
        NewspaperMakeup x = new NewspaperMakeup();
        x.addStory(3, 3, 1, 69, 9);
        x.addStory(3, 3, 1, 40, 5);
        x.addStory(2, 3, 1, 100, 0);
        CHECKS.answers("17: as it is", 0, () -> x.linesIf(1, false));
        CHECKS.answers("17: if it were late", 40, () -> x.linesIf(1, true));
        CHECKS.answers("17: with its jump", 89, () -> x.linesIf(2, false));
        CHECKS.answers("17: it stays as it is", 0, () -> x.story(1, 7));
        CHECKS.answers("17: its lines, too", 0, () -> x.story(1, 11));
        x.setLate(1, true);
        CHECKS.answers("17: late as it is", 40, () -> x.linesIf(1, true));
        CHECKS.answers("17: if it were not", 0, () -> x.linesIf(1, false));
        x.addAdvertisement(0, 0, 0, 5, 24, 1);
        x.addStory(0, 1, 1, 5, 0);
        CHECKS.answers("17: bumped, so on pages", 5, () -> x.linesIf(3, false));
        CHECKS.answers("17: late, so left out", 0, () -> x.linesIf(3, true));
        for (int story : new int[] {-1, 4, 12, LOW, HIGH}) {
            CHECKS.refuses("17: no story " + story, INDEX, () -> x.linesIf(story, true));
        }
    }

    private static void trim() {
        NewspaperMakeup x = new NewspaperMakeup();
        x.addStory(2, 2, 1, 46, 5);
        CHECKS.answers("18: just fits", 0, () -> x.trim(0));
        x.change(0, 3, 47);
        CHECKS.answers("18: jumps, so one line", 1, () -> x.trim(0));
        x.change(0, 3, 150);
        CHECKS.answers("18: jumps and is cut", 104, () -> x.trim(0));
        x.change(0, 0, 3);
        CHECKS.answers("18: is cut", 104, () -> x.trim(0));
        x.addAdvertisement(3, 0, 3, 5, 21, 1);
        CHECKS.answers("18: the least depth", 146, () -> x.trim(0));
        x.addAdvertisement(3, 0, 2, 5, 1, 1);
        CHECKS.refuses("18: left out", ELEMENT, () -> x.trim(0));
        x.change(0, 0, 0);
        x.addAdvertisement(0, 0, 0, 5, 24, 1);
        CHECKS.answers("18: bumped", 104, () -> x.trim(0));
        for (int story : new int[] {-1, 1, 12, LOW, HIGH}) {
            CHECKS.refuses("18: no story " + story, INDEX, () -> x.trim(story));
        }
    }
}
