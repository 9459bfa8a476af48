/** Promises 1 to 9: a new object, and the stories and advertisements themselves. */
public final class StoriesTest {
    private static final Class<IndexOutOfBoundsException> INDEX = IndexOutOfBoundsException.class;
    private static final Class<IllegalArgumentException> ARGUMENT = IllegalArgumentException.class;
    private static final Class<IllegalStateException> STATE = IllegalStateException.class;
    private static final int LOW = Integer.MIN_VALUE;
    private static final int HIGH = Integer.MAX_VALUE;
    private static final Checks CHECKS = new Checks();

    public static void main(String[] args) {
        newObject();
        addAdvertisement();
        addAdvertisementRefuses();
        addStory();
        addStoryRefuses();
        setPhoto();
        setLate();
        change();
        changeRefuses();
        remove();
        storyNumbers();
        storyNumbersOfOneLeftOut();
        advertisementNumbers();
        CHECKS.end();
    }

    private static void newObject() {
        NewspaperMakeup x = new NewspaperMakeup();
        for (int what = 0; what <= 7; what++) {
            int w = what;
            CHECKS.answers("1: count " + w, 0, () -> x.count(w));
        }
        for (int page = 0; page < 4; page++) {
            int p = page;
            CHECKS.answers("1: free cells", 120, () -> x.cellCount(p, 0));
            CHECKS.answers("1: fill", 0f, () -> x.fill(p));
            CHECKS.answers("1: unevenness", 0.0, () -> x.unevenness(p));
        }
        CHECKS.answers("1: sound", true, x::isSound);
        CHECKS.refuses("1: nothing to undo", STATE, x::undo);
        CHECKS.refuses("1: nothing saved", STATE, x::restore);
        CHECKS.refuses("1: no story", INDEX, () -> x.story(0, 0));
        CHECKS.refuses("1: no advertisement", INDEX, () -> x.advertisement(0, 0));
        CHECKS.refuses("1: no rank", INDEX, () -> x.ranked(0));
        CHECKS.answers("1: empty buffer", 1, () -> x.feed('s'));
    }

    private static void addAdvertisement() {
        NewspaperMakeup x = new NewspaperMakeup();
        CHECKS.answers("2: whole page", 0, () -> x.addAdvertisement(3, 0, 0, 5, 24, 999));
        CHECKS.answers("2: last cell", 1, () -> x.addAdvertisement(0, 4, 23, 1, 1, 1));
        CHECKS.answers("2: first cell", 2, () -> x.addAdvertisement(0, 0, 0, 1, 1, 1));
        CHECKS.answers("2: beside the first", 3, () -> x.addAdvertisement(0, 1, 0, 1, 1, 1));
        CHECKS.answers("2: below the first", 4, () -> x.addAdvertisement(0, 0, 1, 2, 3, 1));
        CHECKS.answers("2: same block, other page", 5, () -> x.addAdvertisement(1, 0, 1, 2, 3, 1));
        CHECKS.refuses("2: one cell in common", STATE, () -> x.addAdvertisement(0, 1, 3, 3, 3, 1));
        CHECKS.refuses("2: surrounded", STATE, () -> x.addAdvertisement(3, 2, 5, 1, 1, 1));
        CHECKS.answers("2: removed", 5, () -> x.remove(false, 4));
        CHECKS.answers("2: the number is not used again", 6,
                () -> x.addAdvertisement(0, 1, 3, 3, 3, 1));
        CHECKS.answers("2: the eighth", 7, () -> x.addAdvertisement(2, 0, 0, 1, 1, 1));
        CHECKS.refuses("2: a ninth", STATE, () -> x.addAdvertisement(2, 1, 0, 1, 1, 1));
        CHECKS.answers("2: one removed", 6, () -> x.remove(false, 7));
        CHECKS.refuses("2: there have been 8", STATE, () -> x.addAdvertisement(2, 1, 0, 1, 1, 1));
        CHECKS.refuses("2: price before state", ARGUMENT,
                () -> x.addAdvertisement(2, 1, 0, 1, 1, 0));
    }

    private static void addAdvertisementRefuses() {
        NewspaperMakeup x = new NewspaperMakeup();
        int[][] outside = {
            {-1, 0, 0, 1, 1}, {4, 0, 0, 1, 1}, {0, -1, 0, 1, 1}, {0, 5, 0, 1, 1}, {0, 0, -1, 1, 1},
            {0, 0, 24, 1, 1}, {0, 0, 0, 0, 1}, {0, 0, 0, 6, 1}, {0, 0, 0, 1, 0}, {0, 0, 0, 1, 25},
            {0, 3, 0, 3, 1}, {0, 0, 20, 1, 5}, {0, 4, 0, HIGH, 1}, {0, 0, 23, 1, HIGH},
            {HIGH, 0, 0, 1, 1}, {LOW, 0, 0, 1, 1}, {0, HIGH, 0, HIGH, 1}, {0, 0, HIGH, 1, HIGH},
            {0, LOW, 0, LOW, 1}, {0, 0, LOW, 1, LOW}, {0, 0, 0, -1, 1}, {0, 0, 0, 1, -1}};
        for (int[] block : outside) {
            for (int price : new int[] {1, 0}) {
                CHECKS.refuses("2: outside " + java.util.Arrays.toString(block), INDEX,
                        () -> x.addAdvertisement(
                                block[0], block[1], block[2], block[3], block[4], price));
            }
        }
        for (int price : new int[] {0, -1, 1000, LOW, HIGH}) {
            CHECKS.refuses("2: price " + price, ARGUMENT,
                    () -> x.addAdvertisement(0, 0, 0, 1, 1, price));
        }
        CHECKS.answers("2: nothing was added", 0, () -> x.count(1));
        CHECKS.refuses("2: nothing to undo", STATE, x::undo);
        CHECKS.answers("2: no number was used", 0, () -> x.addAdvertisement(0, 0, 0, 1, 1, 999));
        CHECKS.refuses("2: price before overlap", ARGUMENT,
                () -> x.addAdvertisement(0, 0, 0, 1, 1, 1000));
    }

    private static void addStory() {
        NewspaperMakeup x = new NewspaperMakeup();
        CHECKS.answers("3: least numbers", 0, () -> x.addStory(0, 1, 1, 1, 0));
        CHECKS.answers("3: greatest numbers", 1, () -> x.addStory(3, 3, 3, 150, 9));
        CHECKS.answers("3: no photo", 0, () -> x.story(1, 5));
        CHECKS.answers("3: no caption", 0, () -> x.story(1, 6));
        CHECKS.answers("3: not late", 0, () -> x.story(1, 7));
        CHECKS.answers("3: removed", 1, () -> x.remove(true, 1));
        for (int number = 2; number < 12; number++) {
            CHECKS.answers("3: story " + number, number, () -> x.addStory(0, 1, 1, 1, 0));
        }
        CHECKS.refuses("3: there have been 12", STATE, () -> x.addStory(0, 1, 1, 1, 0));
        CHECKS.refuses("3: number before state", ARGUMENT, () -> x.addStory(0, 1, 1, 0, 0));
        CHECKS.refuses("3: page before state", INDEX, () -> x.addStory(4, 1, 1, 1, 0));
        CHECKS.answers("3: eleven are there", 11, () -> x.count(0));
    }

    private static void addStoryRefuses() {
        NewspaperMakeup x = new NewspaperMakeup();
        for (int page : new int[] {-1, 4, LOW, HIGH}) {
            CHECKS.refuses("3: page " + page, INDEX, () -> x.addStory(page, 1, 1, 1, 0));
            CHECKS.refuses("3: page first " + page, INDEX, () -> x.addStory(page, 0, 0, 0, -1));
        }
        int[][] wrong = {{0, 1, 1, 0}, {4, 1, 1, 0}, {1, 0, 1, 0}, {1, 4, 1, 0}, {1, 1, 0, 0},
            {1, 1, 151, 0}, {1, 1, 1, -1}, {1, 1, 1, 10}, {LOW, 1, 1, 0}, {HIGH, 1, 1, 0},
            {1, LOW, 1, 0}, {1, HIGH, 1, 0}, {1, 1, LOW, 0}, {1, 1, HIGH, 0}, {1, 1, 1, LOW},
            {1, 1, 1, HIGH}};
        for (int[] w : wrong) {
            CHECKS.refuses("3: " + java.util.Arrays.toString(w), ARGUMENT,
                    () -> x.addStory(0, w[0], w[1], w[2], w[3]));
        }
        CHECKS.answers("3: nothing was added", 0, () -> x.count(0));
        CHECKS.refuses("3: nothing to undo", STATE, x::undo);
    }

    private static void setPhoto() {
        NewspaperMakeup x = new NewspaperMakeup();
        x.addStory(0, 2, 1, 10, 5);
        CHECKS.answers("4: first photo", 0, () -> x.setPhoto(0, 8, 2));
        CHECKS.answers("4: height", 8, () -> x.story(0, 5));
        CHECKS.answers("4: caption", 2, () -> x.story(0, 6));
        CHECKS.answers("4: least photo", 8, () -> x.setPhoto(0, 2, 0));
        CHECKS.answers("4: no caption", 0, () -> x.story(0, 6));
        CHECKS.answers("4: caption of 1", 2, () -> x.setPhoto(0, 3, 1));
        int[][] wrong = {{1, 0}, {9, 0}, {-1, 0}, {2, 3}, {2, -1}, {0, 1}, {0, -1}, {0, 2},
            {LOW, 0}, {HIGH, 0}, {2, LOW}, {2, HIGH}, {0, HIGH}};
        for (int[] w : wrong) {
            CHECKS.refuses("4: " + java.util.Arrays.toString(w), ARGUMENT,
                    () -> x.setPhoto(0, w[0], w[1]));
            CHECKS.refuses("4: no such story", INDEX, () -> x.setPhoto(1, w[0], w[1]));
        }
        CHECKS.answers("4: unchanged height", 3, () -> x.story(0, 5));
        CHECKS.answers("4: unchanged caption", 1, () -> x.story(0, 6));
        CHECKS.answers("4: taken away", 3, () -> x.setPhoto(0, 0, 0));
        CHECKS.answers("4: none", 0, () -> x.story(0, 5));
        CHECKS.answers("4: no caption either", 0, () -> x.story(0, 6));
        CHECKS.refuses("4: story -1", INDEX, () -> x.setPhoto(-1, 2, 0));
    }

    private static void setLate() {
        NewspaperMakeup x = new NewspaperMakeup();
        x.addStory(0, 1, 1, 1, 0);
        x.addStory(0, 1, 1, 1, 9);
        CHECKS.answers("5: was not", false, () -> x.setLate(0, true));
        CHECKS.answers("5: was", true, () -> x.setLate(0, true));
        CHECKS.answers("5: is", 1, () -> x.story(0, 7));
        CHECKS.answers("5: comes first", 0, () -> x.ranked(0));
        CHECKS.answers("5: not any more", true, () -> x.setLate(0, false));
        CHECKS.answers("5: is not", 0, () -> x.story(0, 7));
        CHECKS.answers("5: comes last", 1, () -> x.ranked(0));
        for (int story : new int[] {-1, 2, 12, LOW, HIGH}) {
            CHECKS.refuses("5: story " + story, INDEX, () -> x.setLate(story, true));
        }
    }

    private static void change() {
        NewspaperMakeup x = new NewspaperMakeup();
        x.addStory(1, 2, 3, 40, 5);
        int[][] changes = {{0, 3, 1}, {0, 0, 3}, {1, 1, 2}, {1, 3, 1}, {2, 1, 3}, {2, 3, 1},
            {3, 150, 40}, {3, 1, 150}, {4, 9, 5}, {4, 0, 9}};
        for (int[] c : changes) {
            CHECKS.answers("6: change " + java.util.Arrays.toString(c), c[2],
                    () -> x.change(0, c[0], c[1]));
            CHECKS.answers("6: then it is", c[1], () -> x.story(0, c[0]));
        }
        CHECKS.answers("6: the layout follows", 0, () -> x.story(0, 9));
        CHECKS.answers("6: the head follows", 4, () -> x.part(0, 0, 4));
    }

    private static void changeRefuses() {
        NewspaperMakeup x = new NewspaperMakeup();
        x.addStory(1, 2, 3, 40, 5);
        int[][] wrong = {{-1, 1}, {5, 2}, {7, 1}, {LOW, 1}, {HIGH, 1}, {0, -1}, {0, 4}, {1, 0},
            {1, 4}, {2, 0}, {2, 4}, {3, 0}, {3, 151}, {4, -1}, {4, 10}, {0, LOW}, {0, HIGH},
            {3, LOW}, {3, HIGH}};
        for (int[] w : wrong) {
            CHECKS.refuses("6: " + java.util.Arrays.toString(w), ARGUMENT,
                    () -> x.change(0, w[0], w[1]));
            CHECKS.refuses("6: story first", INDEX, () -> x.change(1, w[0], w[1]));
        }
        CHECKS.refuses("6: story -1", INDEX, () -> x.change(-1, 0, 0));
        int[] numbers = {1, 2, 3, 40, 5};
        for (int what = 0; what < 5; what++) {
            int w = what;
            CHECKS.answers("6: unchanged", numbers[w], () -> x.story(0, w));
        }
        CHECKS.answers("6: only one change", 0, x::undo);
    }

    private static void remove() {
        NewspaperMakeup x = new NewspaperMakeup();
        for (int story = 0; story < 3; story++) {
            x.addStory(0, 3, 1, 30, story);
        }
        x.addAdvertisement(2, 0, 0, 5, 24, 3);
        x.addAdvertisement(3, 0, 0, 5, 24, 3);
        CHECKS.answers("7: a story", 2, () -> x.remove(true, 2));
        CHECKS.refuses("7: it is gone", INDEX, () -> x.remove(true, 2));
        CHECKS.refuses("7: no more numbers", INDEX, () -> x.story(2, 0));
        CHECKS.answers("7: the next moves up", 0, () -> x.part(1, 0, 2));
        CHECKS.answers("7: advertisements stay", 2, () -> x.count(1));
        CHECKS.answers("7: an advertisement", 1, () -> x.remove(false, 0));
        CHECKS.refuses("7: it is gone, too", INDEX, () -> x.remove(false, 0));
        CHECKS.answers("7: its cells are free", 120, () -> x.cellCount(2, 0));
        CHECKS.answers("7: the last one", 0, () -> x.remove(false, 1));
        for (int number : new int[] {-1, 3, 12, 8, LOW, HIGH}) {
            CHECKS.refuses("7: story " + number, INDEX, () -> x.remove(true, number));
            CHECKS.refuses("7: advertisement " + number, INDEX, () -> x.remove(false, number));
        }
        CHECKS.answers("7: another story", 1, () -> x.remove(true, 0));
        CHECKS.answers("7: the last story", 0, () -> x.remove(true, 1));
    }

    private static void storyNumbers() {
        NewspaperMakeup x = new NewspaperMakeup();
        x.addStory(1, 2, 3, 100, 4);
        x.setPhoto(0, 5, 1);
        x.setLate(0, true);
        x.addAdvertisement(3, 0, 0, 5, 20, 1);
        // Page 1: 9 rows of head, depth 15, 28 lines and a jump line. Page 2: 22 lines between jump
        // head and jump line. Page 3: rows 20 to 23, a jump head and 3 lines. 100 - 53 are cut.
        int[] due = {1, 2, 3, 100, 4, 5, 1, 1, 0, 1, 3, 53, 47};
        for (int what = 0; what < due.length; what++) {
            int w = what;
            CHECKS.answers("8: number " + w, due[w], () -> x.story(0, w));
        }
        for (int what : new int[] {-1, 13, LOW, HIGH}) {
            CHECKS.refuses("8: what " + what, ARGUMENT, () -> x.story(0, what));
            CHECKS.refuses("8: story first", INDEX, () -> x.story(1, what));
        }
        CHECKS.refuses("8: story -1", INDEX, () -> x.story(-1, 0));
        CHECKS.refuses("8: story 12", INDEX, () -> x.story(12, 0));
    }

    private static void storyNumbersOfOneLeftOut() {
        NewspaperMakeup x = new NewspaperMakeup();
        x.addAdvertisement(3, 0, 0, 5, 24, 1);
        x.addStory(3, 1, 1, 77, 4);
        int[] due = {3, 1, 1, 77, 4, 0, 0, 0, 0, -1, 0, 0, 77};
        for (int what = 0; what < due.length; what++) {
            int w = what;
            CHECKS.answers("8: left out, number " + w, due[w], () -> x.story(0, w));
        }
    }

    private static void advertisementNumbers() {
        NewspaperMakeup x = new NewspaperMakeup();
        x.addAdvertisement(1, 2, 3, 3, 4, 999);
        int[] due = {1, 2, 3, 3, 4, 999, 11988};
        for (int what = 0; what < due.length; what++) {
            int w = what;
            CHECKS.answers("9: number " + w, due[w], () -> x.advertisement(0, w));
        }
        for (int what : new int[] {-1, 7, LOW, HIGH}) {
            CHECKS.refuses("9: what " + what, ARGUMENT, () -> x.advertisement(0, what));
            CHECKS.refuses("9: advertisement first", INDEX, () -> x.advertisement(1, what));
        }
        for (int number : new int[] {-1, 1, 8, LOW, HIGH}) {
            CHECKS.refuses("9: advertisement " + number, INDEX, () -> x.advertisement(number, 0));
        }
    }
}
