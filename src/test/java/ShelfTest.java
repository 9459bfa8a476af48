import java.util.NoSuchElementException;

/** Promises 24 and 25: the shelf. */
public final class ShelfTest {
    private static final Class<IndexOutOfBoundsException> INDEX = IndexOutOfBoundsException.class;
    private static final Class<IllegalStateException> STATE = IllegalStateException.class;
    private static final Class<NoSuchElementException> ELEMENT = NoSuchElementException.class;
    private static final Class<UnsupportedOperationException> UNSUPPORTED =
            UnsupportedOperationException.class;
    private static final int[] WRONG_ROWS = {-1, 3, Integer.MIN_VALUE, Integer.MAX_VALUE};
    private static final int[] WRONG_PLACES = {-1, 4, Integer.MIN_VALUE, Integer.MAX_VALUE};
    private static final Checks CHECKS = new Checks();

    public static void main(String[] args) {
        layDown();
        layDownRefuses();
        takeUpStory();
        takeUpAdvertisement();
        takeUpRefuses();
        copiesStay();
        everyPlaceIsItsOwn();
        inPlaceOfWhatIsThere();
        storyThatIsNotLate();
        advertisementBackInItsCells();
        CHECKS.end();
    }

    private static NewspaperMakeup paper() {
        NewspaperMakeup x = new NewspaperMakeup();
        x.addStory(1, 2, 3, 40, 5);
        x.setPhoto(0, 6, 2);
        x.setLate(0, true);
        x.addAdvertisement(2, 1, 3, 4, 5, 678);
        return x;
    }

    private static void layDown() {
        NewspaperMakeup x = paper();
        CHECKS.answers("24: a story in row 0", 1, () -> x.layDown(0, 3, true, 0));
        CHECKS.answers("24: another place", 2, () -> x.layDown(0, 0, true, 0));
        CHECKS.answers("24: in place of it", 2, () -> x.layDown(0, 3, true, 0));
        CHECKS.answers("24: full", 4,
                () -> x.layDown(0, 1, true, 0) + x.layDown(0, 2, true, 0) - 3);
        CHECKS.answers("24: an advertisement in row 1", 1, () -> x.layDown(1, 0, false, 0));
        CHECKS.answers("24: row 2 takes stories", 1, () -> x.layDown(2, 1, true, 0));
        CHECKS.answers("24: and advertisements", 2, () -> x.layDown(2, 2, false, 0));
        CHECKS.answers("24: in place of the story", 2, () -> x.layDown(2, 1, false, 0));
        CHECKS.answers("24: no change for undo", 3, x::undo);
    }

    private static void layDownRefuses() {
        NewspaperMakeup x = paper();
        for (int row : WRONG_ROWS) {
            CHECKS.refuses("24: row " + row, INDEX, () -> x.layDown(row, 0, true, 0));
            CHECKS.refuses("25: row " + row, INDEX, () -> x.takeUp(row, 0));
        }
        for (int place : WRONG_PLACES) {
            CHECKS.refuses("24: place " + place, INDEX, () -> x.layDown(0, place, true, 0));
            CHECKS.refuses("25: place " + place, INDEX, () -> x.takeUp(0, place));
        }
        for (int number : new int[] {-1, 1, 12, Integer.MIN_VALUE, Integer.MAX_VALUE}) {
            CHECKS.refuses("24: story first", INDEX, () -> x.layDown(1, 0, true, number));
            CHECKS.refuses("24: advertisement first", INDEX, () -> x.layDown(0, 0, false, number));
            CHECKS.refuses("24: no story", INDEX, () -> x.layDown(2, 0, true, number));
        }
        CHECKS.refuses("24: no story in row 1", UNSUPPORTED, () -> x.layDown(1, 0, true, 0));
        CHECKS.refuses("24: no advertisement in row 0", UNSUPPORTED,
                () -> x.layDown(0, 0, false, 0));
        CHECKS.refuses("25: row 1 is still empty", ELEMENT, () -> x.takeUp(1, 0));
        CHECKS.refuses("25: row 0 is still empty", ELEMENT, () -> x.takeUp(0, 0));
    }

    private static void takeUpStory() {
        NewspaperMakeup x = paper();
        x.layDown(2, 3, true, 0);
        x.change(0, 3, 7);
        x.setPhoto(0, 0, 0);
        x.setLate(0, false);
        CHECKS.answers("25: a story", 1, () -> x.takeUp(2, 3));
        int[] due = {1, 2, 3, 40, 5, 6, 2, 1};
        for (int what = 0; what < due.length; what++) {
            int w = what;
            CHECKS.answers("25: number " + w, due[w], () -> x.story(1, w));
        }
        CHECKS.answers("25: the first stays", 7, () -> x.story(0, 3));
        CHECKS.answers("25: it is on a page", 1, () -> x.story(1, 9));
        CHECKS.answers("25: it stays on the shelf", 2, () -> x.takeUp(2, 3));
        CHECKS.answers("25: a change for undo", 7, x::undo);
        CHECKS.answers("25: the number is used again then", 2, () -> x.takeUp(2, 3));
    }

    private static void takeUpAdvertisement() {
        NewspaperMakeup x = paper();
        x.layDown(1, 1, false, 0);
        CHECKS.refuses("25: its cells are taken", STATE, () -> x.takeUp(1, 1));
        CHECKS.answers("25: that was no change", 3, x::undo);
        CHECKS.answers("25: undo took the first away", 0, () -> x.count(1));
        CHECKS.answers("25: an advertisement", 0, () -> x.takeUp(1, 1));
        int[] due = {2, 1, 3, 4, 5, 678, 13560};
        for (int what = 0; what < due.length; what++) {
            int w = what;
            CHECKS.answers("25: number " + w, due[w], () -> x.advertisement(0, w));
        }
        CHECKS.answers("25: its cells", 20, () -> x.cellCount(2, 1));
    }

    private static void takeUpRefuses() {
        NewspaperMakeup x = paper();
        x.layDown(0, 0, true, 0);
        x.layDown(1, 0, false, 0);
        for (int number = 1; number < 12; number++) {
            CHECKS.answers("25: story " + number, number, () -> x.takeUp(0, 0));
        }
        CHECKS.refuses("25: there have been 12", STATE, () -> x.takeUp(0, 0));
        for (int number = 1; number < 8; number++) {
            x.remove(false, number - 1);
            CHECKS.answers("25: advertisement " + number, number, () -> x.takeUp(1, 0));
        }
        x.remove(false, 7);
        CHECKS.refuses("25: there have been 8", STATE, () -> x.takeUp(1, 0));
        CHECKS.refuses("25: empty", ELEMENT, () -> x.takeUp(2, 0));
    }

    private static void copiesStay() {
        NewspaperMakeup x = paper();
        x.layDown(0, 1, true, 0);
        x.save();
        x.layDown(1, 2, false, 0);
        x.remove(true, 0);
        x.remove(false, 0);
        x.restore();
        x.remove(false, 0);
        CHECKS.answers("24: restore leaves the shelf", 1, () -> x.takeUp(1, 2));
        CHECKS.answers("24: undo leaves it, too", 1, x::undo);
        x.undo();
        CHECKS.answers("24: still there", 1, () -> x.takeUp(0, 1));
    }

    private static void everyPlaceIsItsOwn() {
        NewspaperMakeup x = new NewspaperMakeup();
        x.addStory(0, 1, 1, 1, 1);
        for (int place = 0; place < 4; place++) {
            x.addAdvertisement(3, place, 0, 1, 1, 500 + place);
        }
        for (int place = 0; place < 4; place++) {
            int p = place;
            x.change(0, 3, 10 + p);
            CHECKS.answers("24: filled places of row 0", p + 1, () -> x.layDown(0, p, true, 0));
            CHECKS.answers("24: filled places of row 1", p + 1, () -> x.layDown(1, p, false, p));
            x.change(0, 3, 20 + p);
            CHECKS.answers("24: filled places of row 2", p + 1, () -> x.layDown(2, p, true, 0));
        }
        for (int place = 0; place < 4; place++) {
            int p = place;
            x.remove(false, place);
            CHECKS.answers("25: from row 0", 1 + 2 * p, () -> x.takeUp(0, p));
            CHECKS.answers("25: its lines", 10 + p, () -> x.story(1 + 2 * p, 3));
            CHECKS.answers("25: from row 1", 4 + p, () -> x.takeUp(1, p));
            CHECKS.answers("25: its price", 500 + p, () -> x.advertisement(4 + p, 5));
            CHECKS.answers("25: from row 2", 2 + 2 * p, () -> x.takeUp(2, p));
            CHECKS.answers("25: its lines, too", 20 + p, () -> x.story(2 + 2 * p, 3));
        }
    }

    private static void inPlaceOfWhatIsThere() {
        NewspaperMakeup x = paper();
        x.addStory(3, 1, 1, 1, 1);
        x.layDown(2, 3, true, 0);
        CHECKS.answers("24: an advertisement for a story", 1, () -> x.layDown(2, 3, false, 0));
        x.remove(false, 0);
        CHECKS.answers("25: it's the advertisement now", 1, () -> x.takeUp(2, 3));
        CHECKS.answers("25: with its price", 678, () -> x.advertisement(1, 5));
        CHECKS.answers("24: a story for an advertisement", 1, () -> x.layDown(2, 3, true, 1));
        CHECKS.answers("25: it's the second story now", 2, () -> x.takeUp(2, 3));
        int[] due = {3, 1, 1, 1, 1, 0, 0, 0};
        for (int what = 0; what < due.length; what++) {
            int w = what;
            CHECKS.answers("25: second story, number " + w, due[w], () -> x.story(2, w));
        }
        CHECKS.answers("24: the other places are empty", 1, () -> x.layDown(0, 3, true, 1));
    }

    private static void storyThatIsNotLate() {
        NewspaperMakeup x = paper();
        x.setLate(0, false);
        x.layDown(0, 0, true, 0);
        x.setLate(0, true);
        x.takeUp(0, 0);
        CHECKS.answers("25: not late", 0, () -> x.story(1, 7));
        CHECKS.answers("25: the other one is", 1, () -> x.story(0, 7));
        CHECKS.answers("25: so it comes after it", 1, () -> x.story(1, 8));
        CHECKS.answers("25: its own first line", 1211, () -> x.locate(1, 0));
    }

    private static void advertisementBackInItsCells() {
        NewspaperMakeup x = paper();
        x.layDown(1, 0, false, 0);
        x.remove(false, 0);
        x.addAdvertisement(2, 4, 7, 1, 2, 1);
        CHECKS.refuses("25: one cell in common", STATE, () -> x.takeUp(1, 0));
        CHECKS.answers("25: none was added", 1, () -> x.count(1));
        x.remove(false, 1);
        x.addAdvertisement(2, 0, 2, 5, 1, 1);
        CHECKS.answers("25: side by side", 3, () -> x.takeUp(1, 0));
        CHECKS.answers("25: a change", 7, x::undo);
        CHECKS.answers("25: the cells are free again", 0, () -> x.cell(2, 4, 7));
        CHECKS.answers("25: the number comes back", 3, () -> x.takeUp(1, 0));
    }
}
