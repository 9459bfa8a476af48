/** Promises 19 to 23: accounts. */
public final class AccountsTest {
    private static final Class<IndexOutOfBoundsException> INDEX = IndexOutOfBoundsException.class;
    private static final Class<IllegalArgumentException> ARGUMENT = IllegalArgumentException.class;
    private static final int LOW = Integer.MIN_VALUE;
    private static final int HIGH = Integer.MAX_VALUE;
    private static final Checks CHECKS = new Checks();

    public static void main(String[] args) {
        count();
        countOfStoryZero();
        cellCount();
        fill();
        unevenness();
        wrongPages();
        isSound();
        greatestPrices();
        fullAndEmptyPages();
        CHECKS.end();
    }

    /** A late story that is left out, one that is bumped, one that jumps twice and is cut. */
    private static NewspaperMakeup busyPaper() {
        NewspaperMakeup x = new NewspaperMakeup();
        x.addAdvertisement(0, 0, 0, 5, 24, 2);
        x.addAdvertisement(3, 0, 12, 5, 12, 7);
        x.addAdvertisement(2, 4, 20, 1, 4, 999);
        x.addStory(0, 1, 1, 33, 9);
        x.setLate(0, true);
        x.addStory(1, 3, 2, 150, 5);
        x.addStory(0, 2, 1, 5, 4);
        return x;
    }

    private static void count() {
        NewspaperMakeup x = busyPaper();
        // Story 1: 63 lines on page 1, 22 on page 2, 11 on page 3; 54 are cut.
        int[] due = {3, 3, 1, 1, 2, 101, 87, 240 + 420 + 3996};
        for (int what = 0; what < due.length; what++) {
            int w = what;
            CHECKS.answers("19: count " + w, due[w], () -> x.count(w));
        }
        for (int what : new int[] {-1, 8, LOW, HIGH}) {
            CHECKS.refuses("19: what " + what, ARGUMENT, () -> x.count(what));
        }
        x.remove(false, 0);
        x.remove(true, 1);
        // Story 0 is on pages now: 22 lines on page 0, the other 11 on page 1.
        int[] then = {2, 2, 0, 0, 1, 38, 0, 4416};
        for (int what = 0; what < then.length; what++) {
            int w = what;
            CHECKS.answers("19: then count " + w, then[w], () -> x.count(w));
        }
    }

    private static void countOfStoryZero() {
        NewspaperMakeup x = new NewspaperMakeup();
        x.addAdvertisement(0, 0, 0, 5, 24, 1);
        x.addStory(0, 1, 1, 5, 4);
        CHECKS.answers("19: story 0 is bumped", 1, () -> x.count(3));
        x.setLate(0, true);
        CHECKS.answers("19: story 0 is left out", 1, () -> x.count(2));
        CHECKS.answers("19: so it isn't bumped", 0, () -> x.count(3));
    }

    private static void cellCount() {
        NewspaperMakeup x = busyPaper();
        int[][] due = {{0, 120, 0, 0, 0, 0, 0, 0, 0}, {120 - 72 - 8, 0, 8, 0, 0, 68, 3, 0, 1},
            {120 - 4 - 24, 4, 0, 0, 0, 22, 1, 1, 0}, {120 - 60 - 12, 60, 0, 0, 0, 11, 0, 1, 0}};
        for (int page = 0; page < 4; page++) {
            for (int kind = 0; kind <= 8; kind++) {
                int p = page;
                int k = kind;
                CHECKS.answers("20: page " + p + ", kind " + k, due[p][k], () -> x.cellCount(p, k));
            }
        }
        x.setPhoto(2, 4, 1);
        CHECKS.answers("20: photo", 8, () -> x.cellCount(1, 3));
        CHECKS.answers("20: caption", 2, () -> x.cellCount(1, 4));
        for (int kind : new int[] {-1, 9, LOW, HIGH}) {
            CHECKS.refuses("20: kind " + kind, ARGUMENT, () -> x.cellCount(0, kind));
            CHECKS.refuses("20: page first", INDEX, () -> x.cellCount(4, kind));
        }
    }

    private static void fill() {
        NewspaperMakeup x = busyPaper();
        CHECKS.answers("21: full", 1f, () -> x.fill(0));
        CHECKS.answers("21: without the white cell", 79f / 120f, () -> x.fill(1));
        CHECKS.answers("21: page 2", 28f / 120f, () -> x.fill(2));
        CHECKS.answers("21: page 3", 72f / 120f, () -> x.fill(3));
    }

    private static double uneven(int... used) {
        float sum = 0f;
        for (int cells : used) {
            sum += (float) cells / 24f;
        }
        float mean = sum / 5f;
        float squares = 0f;
        for (int cells : used) {
            squares += ((float) cells / 24f - mean) * ((float) cells / 24f - mean);
        }
        return (double) squares / 5.0;
    }

    private static void unevenness() {
        NewspaperMakeup x = busyPaper();
        CHECKS.answers("22: full", 0.0, () -> x.unevenness(0));
        CHECKS.answers("22: page 1", uneven(24, 24, 24, 4, 3), () -> x.unevenness(1));
        CHECKS.answers("22: page 2", uneven(24, 0, 0, 0, 4), () -> x.unevenness(2));
        CHECKS.answers("22: page 3", uneven(24, 12, 12, 12, 12), () -> x.unevenness(3));
    }

    private static void wrongPages() {
        NewspaperMakeup x = busyPaper();
        for (int page : new int[] {-1, 4, LOW, HIGH}) {
            CHECKS.refuses("20: page " + page, INDEX, () -> x.cellCount(page, 0));
            CHECKS.refuses("21: page " + page, INDEX, () -> x.fill(page));
            CHECKS.refuses("22: page " + page, INDEX, () -> x.unevenness(page));
        }
    }

    private static void isSound() {
        NewspaperMakeup x = busyPaper();
        CHECKS.answers("23: sound", true, x::isSound);
        x.remove(false, 1);
        CHECKS.answers("23: sound after a removal", true, x::isSound);
        x.remove(true, 1);
        CHECKS.answers("23: sound without the long story", true, x::isSound);
        x.undo();
        CHECKS.answers("23: sound after undo", true, x::isSound);
        NewspaperMakeup y = new NewspaperMakeup();
        for (int story = 0; story < 12; story++) {
            y.addStory(story % 4, 1 + story % 3, 1, 40 + story, story % 5);
            y.setPhoto(story, story % 2 == 0 ? 0 : 4, story % 2);
            CHECKS.answers("23: sound with story " + story, true, y::isSound);
        }
        y.addAdvertisement(0, 0, 0, 5, 24, 1);
        CHECKS.answers("23: sound with stories left out", true, y::isSound);
    }

    private static void greatestPrices() {
        NewspaperMakeup x = new NewspaperMakeup();
        for (int page = 0; page < 4; page++) {
            int p = page;
            CHECKS.answers("19: prices of full pages", p * 119880, () -> x.count(7));
            x.addAdvertisement(page, 0, 0, 5, 24, 999);
            CHECKS.answers("9: price of a full page", 119880, () -> x.advertisement(p, 6));
        }
        CHECKS.answers("19: prices of all cells", 479520, () -> x.count(7));
        x.addStory(0, 1, 1, 150, 0);
        CHECKS.answers("19: no line is on pages", 0, () -> x.count(5));
        CHECKS.answers("19: all lines are cut", 150, () -> x.count(6));
    }

    private static void fullAndEmptyPages() {
        NewspaperMakeup x = new NewspaperMakeup();
        x.addStory(1, 1, 1, 23, 0);
        CHECKS.answers("21: a column", 24f / 120f, () -> x.fill(1));
        CHECKS.answers("22: a column", uneven(24, 0, 0, 0, 0), () -> x.unevenness(1));
        x.addAdvertisement(1, 4, 23, 1, 1, 1);
        CHECKS.answers("22: first and last", uneven(24, 0, 0, 0, 1), () -> x.unevenness(1));
        CHECKS.answers("21: an empty page", 0f, () -> x.fill(2));
        CHECKS.answers("22: an empty page", 0.0, () -> x.unevenness(2));
        CHECKS.answers("20: all of it is free", 120, () -> x.cellCount(2, 0));
        x.addAdvertisement(2, 0, 0, 5, 24, 1);
        CHECKS.answers("21: a full page", 1f, () -> x.fill(2));
        CHECKS.answers("20: nothing of it is free", 0, () -> x.cellCount(2, 0));
        CHECKS.answers("20: all is advertisement", 120, () -> x.cellCount(2, 1));
        CHECKS.answers("20: pages are counted by themselves", 1, () -> x.cellCount(1, 1));
    }
}
