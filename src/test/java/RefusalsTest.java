import java.util.NoSuchElementException;

/**
 * Every "Throws" of the document: the exception that is named first is the one that is thrown, and
 * the call leaves everything as it was, which is asked of a twin that did not get the call.
 */
public final class RefusalsTest {
    private interface Call {
        Object on(NewspaperMakeup x);
    }

    private static final Class<IndexOutOfBoundsException> INDEX = IndexOutOfBoundsException.class;
    private static final Class<IllegalArgumentException> ARGUMENT = IllegalArgumentException.class;
    private static final Class<IllegalStateException> STATE = IllegalStateException.class;
    private static final Class<NoSuchElementException> ELEMENT = NoSuchElementException.class;
    private static final Class<UnsupportedOperationException> UNSUPPORTED =
            UnsupportedOperationException.class;
    private static final int LOW = Integer.MIN_VALUE;
    private static final int HIGH = Integer.MAX_VALUE;
    private static final Twins.Calls NOTHING = x -> { };
    private static final Twins.Calls BUSY = RefusalsTest::busy;
    private static final Checks CHECKS = new Checks();

    /** The stories that are not in the busy paper: 3 was removed, 5 to 11 have never been. */
    private static final int[] NO_STORY = {-1, 3, 5, 11, 12, LOW, HIGH};

    /** The advertisements that are not there: 1 was removed. */
    private static final int[] NO_ADVERTISEMENT = {-1, 1, 3, 7, 8, 100, LOW, HIGH};
    private static final int[] NO_PAGE = {-1, 4, LOW, HIGH};

    public static void main(String[] args) {
        addAdvertisement();
        addAdvertisementOverOthers();
        addStory();
        setPhoto();
        setLate();
        change();
        remove();
        numbersOfStoriesAndAdvertisements();
        cells();
        parts();
        locate();
        ranks();
        forecasts();
        accounts();
        layDown();
        takeUp();
        takeUpWithoutRoom();
        feed();
        report();
        undoAndRestore();
        questionsChangeNothing();
        CHECKS.end();
    }

    /** Something of everything: jumps, a bumped, a late and a removed story, a shelf, a report. */
    private static void busy(NewspaperMakeup x) {
        x.addAdvertisement(0, 0, 0, 5, 20, 2);
        x.addAdvertisement(1, 2, 4, 1, 3, 7);
        x.addAdvertisement(3, 0, 12, 5, 12, 9);
        x.addStory(0, 1, 1, 33, 9);
        x.addStory(1, 3, 2, 150, 5);
        x.addStory(0, 2, 1, 5, 4);
        x.addStory(2, 1, 1, 9, 1);
        x.addStory(0, 3, 3, 20, 2);
        x.layDown(0, 1, true, 1);
        x.layDown(1, 2, false, 2);
        x.layDown(2, 0, true, 3);
        x.save();
        x.remove(false, 1);
        x.remove(true, 3);
        x.setPhoto(1, 4, 1);
        x.setLate(4, true);
        x.change(2, 3, 6);
        perform(x, "l0,1;p0,1,0");
        x.change(2, 4, 8);
        x.undo();
        type(x, "l0,1");
    }

    private static void type(NewspaperMakeup x, String text) {
        for (int at = 0; at < text.length(); at++) {
            x.feed(text.charAt(at));
        }
    }

    private static void perform(NewspaperMakeup x, String text) {
        type(x, text);
        swallow(NewspaperMakeup::perform, x);
    }

    private static void swallow(Call call, NewspaperMakeup x) {
        try {
            call.on(x);
        } catch (RuntimeException e) {
            // Which one it is is asked elsewhere; here it only matters what the call leaves.
        }
    }

    private static void refused(String name, Class<? extends RuntimeException> due,
            Twins.Calls setup, Call call) {
        NewspaperMakeup x = new NewspaperMakeup();
        setup.on(x);
        CHECKS.refuses(name, due, () -> call.on(x));
        Twins.areAlike(CHECKS, name + ", refused", y -> {
            setup.on(y);
            swallow(call, y);
        }, setup);
    }

    private static String text(String name, int... numbers) {
        StringBuilder text = new StringBuilder(name);
        for (int number : numbers) {
            text.append(' ').append(number);
        }
        return text.toString();
    }

    private static void addAdvertisement() {
        int[][] outside = {{-1, 0, 0, 1, 1}, {4, 0, 0, 1, 1}, {LOW, 0, 0, 1, 1}, {HIGH, 0, 0, 1, 1},
            {2, -1, 0, 1, 1}, {2, 5, 0, 1, 1}, {2, 0, -1, 1, 1}, {2, 0, 24, 1, 1},
            {2, 0, 0, 0, 1}, {2, 0, 0, 1, 0}, {2, 0, 0, -1, 1}, {2, 0, 0, 1, -1},
            {2, 0, 0, 6, 1}, {2, 0, 0, 1, 25}, {2, 1, 0, 5, 1}, {2, 4, 0, 2, 1},
            {2, 0, 1, 1, 24}, {2, 0, 23, 1, 2}, {2, 4, 0, HIGH, 1}, {2, 0, 23, 1, HIGH},
            {2, 1, 0, HIGH, 1}, {2, 0, 1, 1, HIGH}, {2, HIGH, 0, 1, 1}, {2, 0, HIGH, 1, 1},
            {2, HIGH, 0, HIGH, 1}, {2, 0, HIGH, 1, HIGH}, {2, LOW, 0, LOW, 1}, {2, 0, LOW, 1, LOW},
            {2, LOW, 0, HIGH, 1}, {2, 0, LOW, 1, HIGH}, {2, 5, 0, 0, 1}, {2, 0, 24, 1, 0},
            {2, -1, 0, 2, 1}, {2, 0, -1, 1, 2}};
        for (int[] b : outside) {
            refused(text("2: block", b), INDEX, BUSY,
                    x -> x.addAdvertisement(b[0], b[1], b[2], b[3], b[4], 1));
        }
        refused("2: block before price and state", INDEX, BUSY,
                x -> x.addAdvertisement(0, 0, 0, 6, 1, 0));
        for (int price : new int[] {0, -1, 1000, LOW, HIGH}) {
            refused(text("2: price", price), ARGUMENT, BUSY,
                    x -> x.addAdvertisement(2, 0, 0, 1, 1, price));
            refused(text("2: price before state", price), ARGUMENT, BUSY,
                    x -> x.addAdvertisement(0, 0, 0, 1, 1, price));
        }
    }

    private static void addAdvertisementOverOthers() {
        int[][] over = {{0, 0, 0, 5, 20}, {0, 4, 19, 1, 1}, {0, 0, 19, 1, 2}, {0, 4, 0, 1, 24},
            {0, 2, 9, 1, 1}, {3, 0, 11, 1, 2}, {3, 4, 23, 1, 1}, {3, 0, 0, 5, 24}};
        for (int[] b : over) {
            refused(text("2: taken", b), STATE, BUSY,
                    x -> x.addAdvertisement(b[0], b[1], b[2], b[3], b[4], 1));
        }
        Twins.Calls eight = x -> {
            for (int column = 0; column < 5; column++) {
                x.addAdvertisement(2, column, 0, 1, 1, 1);
            }
            for (int row = 1; row < 4; row++) {
                x.addAdvertisement(2, 0, row, 1, 1, 1);
            }
            x.remove(false, 7);
            x.remove(false, 0);
        };
        refused("2: there have been 8", STATE, eight, x -> x.addAdvertisement(0, 0, 0, 1, 1, 1));
        refused("2: price, and 8", ARGUMENT, eight, x -> x.addAdvertisement(0, 0, 0, 1, 1, 0));
        refused("2: block, and 8", INDEX, eight, x -> x.addAdvertisement(0, 0, 0, 1, 0, 1));
    }

    private static void addStory() {
        for (int page : NO_PAGE) {
            refused(text("3: page", page), INDEX, BUSY, x -> x.addStory(page, 1, 1, 1, 0));
        }
        refused("3: page before numbers", INDEX, BUSY, x -> x.addStory(4, 0, 0, 0, -1));
        int[][] wrong = {{0, 1, 1, 0}, {4, 1, 1, 0}, {1, 0, 1, 0}, {1, 4, 1, 0}, {1, 1, 0, 0},
            {1, 1, 151, 0}, {1, 1, 1, -1}, {1, 1, 1, 10}, {LOW, 1, 1, 0}, {HIGH, 1, 1, 0},
            {1, LOW, 1, 0}, {1, HIGH, 1, 0}, {1, 1, LOW, 0}, {1, 1, HIGH, 0}, {1, 1, 1, LOW},
            {1, 1, 1, HIGH}};
        for (int[] w : wrong) {
            refused(text("3: numbers", w), ARGUMENT, BUSY,
                    x -> x.addStory(0, w[0], w[1], w[2], w[3]));
        }
        Twins.Calls twelve = x -> {
            for (int story = 0; story < 12; story++) {
                x.addStory(story % 4, 1, 1, 1 + story, 0);
            }
            x.remove(true, 11);
            x.remove(true, 0);
        };
        refused("3: there have been 12", STATE, twelve, x -> x.addStory(0, 1, 1, 1, 0));
        refused("3: numbers, and 12", ARGUMENT, twelve, x -> x.addStory(0, 1, 1, 1, 10));
        refused("3: page, and 12", INDEX, twelve, x -> x.addStory(-1, 1, 1, 1, 0));
    }

    private static void setPhoto() {
        for (int story : NO_STORY) {
            refused(text("4: story", story), INDEX, BUSY, x -> x.setPhoto(story, 2, 0));
            refused(text("4: before height", story), INDEX, BUSY, x -> x.setPhoto(story, 1, 3));
        }
        int[][] wrong = {{1, 0}, {9, 0}, {-1, 0}, {-2, 0}, {LOW, 0}, {HIGH, 0}, {2, -1}, {8, 3},
            {2, LOW}, {8, HIGH}, {0, 1}, {0, 2}, {0, -1}, {0, 3}, {0, LOW}, {0, HIGH}, {1, 3}};
        for (int[] w : wrong) {
            for (int story = 0; story < 2; story++) {
                int s = story;
                refused(text("4: photo", w), ARGUMENT, BUSY, x -> x.setPhoto(s, w[0], w[1]));
            }
        }
    }

    private static void setLate() {
        for (int story : NO_STORY) {
            refused(text("5: story", story), INDEX, BUSY, x -> x.setLate(story, true));
            refused(text("5: story not late", story), INDEX, BUSY, x -> x.setLate(story, false));
        }
    }

    private static void change() {
        for (int story : NO_STORY) {
            refused(text("6: story", story), INDEX, BUSY, x -> x.change(story, 3, 1));
            refused(text("6: before what", story), INDEX, BUSY, x -> x.change(story, 5, 1));
            refused(text("6: before value", story), INDEX, BUSY, x -> x.change(story, 3, 0));
        }
        int[][] wrong = {{-1, 1}, {5, 2}, {6, 1}, {7, 1}, {8, 1}, {LOW, 1}, {HIGH, 1}, {0, -1},
            {0, 4}, {1, 0}, {1, 4}, {2, 0}, {2, 4}, {3, 0}, {3, 151}, {4, -1}, {4, 10}, {0, LOW},
            {0, HIGH}, {1, LOW}, {1, HIGH}, {2, LOW}, {2, HIGH}, {3, LOW}, {3, HIGH}, {4, LOW},
            {4, HIGH}};
        for (int[] w : wrong) {
            refused(text("6: change", w), ARGUMENT, BUSY, x -> x.change(1, w[0], w[1]));
        }
    }

    private static void remove() {
        for (int story : NO_STORY) {
            refused(text("7: story", story), INDEX, BUSY, x -> x.remove(true, story));
        }
        for (int number : NO_ADVERTISEMENT) {
            refused(text("7: advertisement", number), INDEX, BUSY, x -> x.remove(false, number));
        }
        refused("7: nothing at all", INDEX, NOTHING, x -> x.remove(true, 0));
        refused("7: nothing at all, too", INDEX, NOTHING, x -> x.remove(false, 0));
    }

    private static void numbersOfStoriesAndAdvertisements() {
        for (int story : NO_STORY) {
            refused(text("8: story", story), INDEX, BUSY, x -> x.story(story, 0));
            refused(text("8: before what", story), INDEX, BUSY, x -> x.story(story, 13));
        }
        for (int what : new int[] {-1, 13, 100, LOW, HIGH}) {
            refused(text("8: what", what), ARGUMENT, BUSY, x -> x.story(4, what));
        }
        for (int number : NO_ADVERTISEMENT) {
            refused(text("9: advertisement", number), INDEX, BUSY, x -> x.advertisement(number, 0));
            refused(text("9: before what", number), INDEX, BUSY, x -> x.advertisement(number, 7));
        }
        for (int what : new int[] {-1, 7, LOW, HIGH}) {
            refused(text("9: what", what), ARGUMENT, BUSY, x -> x.advertisement(2, what));
        }
    }

    private static void cells() {
        int[][] wrong = {{-1, 0, 0}, {4, 0, 0}, {0, -1, 0}, {0, 5, 0}, {0, 0, -1}, {0, 0, 24},
            {3, 5, 23}, {3, 4, 24}, {1, -1, 1}, {LOW, 0, 0}, {HIGH, 0, 0}, {0, LOW, 0},
            {0, HIGH, 0}, {0, 0, LOW}, {0, 0, HIGH}, {HIGH, HIGH, HIGH}, {LOW, LOW, LOW}};
        for (int[] w : wrong) {
            refused(text("10: cell", w), INDEX, BUSY, x -> x.cell(w[0], w[1], w[2]));
            refused(text("11: cell", w), INDEX, BUSY, x -> x.owner(w[0], w[1], w[2]));
        }
        refused("11: free", ELEMENT, NOTHING, x -> x.owner(0, 0, 0));
        refused("11: free, the last", ELEMENT, NOTHING, x -> x.owner(3, 4, 23));
        refused("11: an advertisement was there", ELEMENT, x -> {
            x.addAdvertisement(2, 1, 1, 1, 1, 1);
            x.remove(false, 0);
        }, x -> x.owner(2, 1, 1));
    }

    private static void parts() {
        for (int story : NO_STORY) {
            refused(text("12: story", story), INDEX, BUSY, x -> x.part(story, 0, 0));
            refused(text("12: story before what", story), INDEX, BUSY, x -> x.part(story, 0, 8));
        }
        for (int part : new int[] {-1, 1, 3, 4, LOW, HIGH}) {
            refused(text("12: part", part), INDEX, BUSY, x -> x.part(2, part, 0));
            refused(text("12: part before what", part), INDEX, BUSY, x -> x.part(2, part, -1));
        }
        refused("12: left out, so it has no part", INDEX, BUSY, x -> x.part(4, 0, 0));
        for (int what : new int[] {-1, 8, LOW, HIGH}) {
            refused(text("12: what", what), ARGUMENT, BUSY, x -> x.part(2, 0, what));
        }
    }

    private static void locate() {
        for (int story : NO_STORY) {
            refused(text("13: story", story), INDEX, BUSY, x -> x.locate(story, 0));
        }
        for (int line : new int[] {-1, 6, 150, LOW, HIGH}) {
            refused(text("13: line", line), INDEX, BUSY, x -> x.locate(2, line));
        }
        for (int line : new int[] {-1, 20, LOW, HIGH}) {
            refused(text("13: line of one left out", line), INDEX, BUSY, x -> x.locate(4, line));
        }
        refused("13: left out, first line", ELEMENT, BUSY, x -> x.locate(4, 0));
        refused("13: left out, last line", ELEMENT, BUSY, x -> x.locate(4, 19));
        Twins.Calls cut = x -> x.addStory(3, 1, 1, 30, 0);
        refused("13: first line that is cut", ELEMENT, cut, x -> x.locate(0, 23));
        refused("13: last line that is cut", ELEMENT, cut, x -> x.locate(0, 29));
        refused("13: the line after it", INDEX, cut, x -> x.locate(0, 30));
    }

    private static void ranks() {
        for (int rank : new int[] {-1, 4, 11, 12, LOW, HIGH}) {
            refused(text("14: rank", rank), INDEX, BUSY, x -> x.ranked(rank));
        }
        refused("14: no story", INDEX, NOTHING, x -> x.ranked(0));
        for (int story : NO_STORY) {
            refused(text("15: story", story), INDEX, BUSY, x -> x.fate(story));
        }
    }

    private static void forecasts() {
        for (int story : NO_STORY) {
            refused(text("16: story", story), INDEX, BUSY, x -> x.blamed(story));
            refused(text("17: story", story), INDEX, BUSY, x -> x.linesIf(story, true));
            refused(text("17: story, not late", story), INDEX, BUSY, x -> x.linesIf(story, false));
            refused(text("18: story", story), INDEX, BUSY, x -> x.trim(story));
        }
        refused("16: starts on its own page", ELEMENT, BUSY, x -> x.blamed(1));
        refused("16: an advertisement is in the way", ELEMENT, BUSY, x -> x.blamed(4));
        refused("18: left out", ELEMENT, BUSY, x -> x.trim(4));
    }

    private static void accounts() {
        for (int what : new int[] {-1, 8, 100, LOW, HIGH}) {
            refused(text("19: what", what), ARGUMENT, BUSY, x -> x.count(what));
        }
        for (int page : NO_PAGE) {
            refused(text("20: page", page), INDEX, BUSY, x -> x.cellCount(page, 0));
            refused(text("20: page before kind", page), INDEX, BUSY, x -> x.cellCount(page, 9));
            refused(text("21: page", page), INDEX, BUSY, x -> x.fill(page));
            refused(text("22: page", page), INDEX, BUSY, x -> x.unevenness(page));
        }
        for (int kind : new int[] {-1, 9, 100, LOW, HIGH}) {
            refused(text("20: kind", kind), ARGUMENT, BUSY, x -> x.cellCount(3, kind));
        }
    }

    private static void layDown() {
        for (int row : new int[] {-1, 3, LOW, HIGH}) {
            refused(text("24: row", row), INDEX, BUSY, x -> x.layDown(row, 1, true, 0));
            refused(text("24: row, advertisement", row), INDEX, BUSY,
                    x -> x.layDown(row, 1, false, 0));
        }
        for (int place : new int[] {-1, 4, LOW, HIGH}) {
            for (int row = 0; row < 3; row++) {
                int r = row;
                refused(text("24: row, place", row, place), INDEX, BUSY,
                        x -> x.layDown(r, place, r != 1, 0));
                refused(text("24: place before row", row, place), INDEX, BUSY,
                        x -> x.layDown(r, place, r == 1, 0));
            }
        }
        for (int story : NO_STORY) {
            refused(text("24: story", story), INDEX, BUSY, x -> x.layDown(0, 1, true, story));
            refused(text("24: before row", story), INDEX, BUSY, x -> x.layDown(1, 2, true, story));
        }
        for (int number : NO_ADVERTISEMENT) {
            refused(text("24: advertisement", number), INDEX, BUSY,
                    x -> x.layDown(1, 2, false, number));
            refused(text("24: advertisement before row", number), INDEX, BUSY,
                    x -> x.layDown(0, 1, false, number));
        }
        for (int place = 0; place < 4; place++) {
            int p = place;
            refused(text("24: row 1 takes no story", p), UNSUPPORTED, BUSY,
                    x -> x.layDown(1, p, true, 1));
            refused(text("24: row 0 takes no advertisement", p), UNSUPPORTED, BUSY,
                    x -> x.layDown(0, p, false, 2));
        }
    }

    private static void takeUp() {
        for (int wrong : new int[] {-1, LOW, HIGH}) {
            refused(text("25: row", wrong), INDEX, BUSY, x -> x.takeUp(wrong, 1));
            refused(text("25: place", wrong), INDEX, BUSY, x -> x.takeUp(0, wrong));
        }
        refused("25: row 3", INDEX, BUSY, x -> x.takeUp(3, 0));
        refused("25: place 4 is not the first of the next row", INDEX, BUSY, x -> x.takeUp(1, 4));
        refused("25: place -1 is not the last of the row before", INDEX, x -> {
            x.addStory(0, 1, 1, 1, 0);
            x.layDown(0, 3, true, 0);
        }, x -> x.takeUp(1, -1));
        for (int spot = 0; spot < 12; spot++) {
            int row = spot / 4;
            int place = spot % 4;
            refused(text("25: at first empty", row, place), ELEMENT, NOTHING,
                    x -> x.takeUp(row, place));
            if (spot != 1 && spot != 6 && spot != 8) {
                refused(text("25: empty", row, place), ELEMENT, BUSY, x -> x.takeUp(row, place));
            }
        }
    }

    private static void takeUpWithoutRoom() {
        refused("25: its cells are taken", STATE, BUSY, x -> x.takeUp(1, 2));
        Twins.Calls full = x -> {
            x.addStory(0, 1, 1, 1, 0);
            x.addAdvertisement(0, 0, 0, 1, 1, 1);
            x.layDown(2, 0, true, 0);
            x.layDown(2, 1, false, 0);
            for (int story = 1; story < 12; story++) {
                x.addStory(0, 1, 1, 1, 0);
            }
            for (int row = 1; row < 8; row++) {
                x.addAdvertisement(1, 0, row, 1, 1, 1);
            }
            x.remove(true, 0);
            x.remove(false, 0);
        };
        refused("25: there have been 12 stories", STATE, full, x -> x.takeUp(2, 0));
        refused("25: there have been 8 advertisements", STATE, full, x -> x.takeUp(2, 1));
        refused("25: empty, and 12 stories", ELEMENT, full, x -> x.takeUp(0, 0));
        refused("25: no such place, and 12 stories", INDEX, full, x -> x.takeUp(2, 4));
    }

    private static void feed() {
        StringBuilder eighty = new StringBuilder("l0,1;l0,0");
        while (eighty.length() < 80) {
            eighty.append(eighty.length() == 79 ? "x" : ";");
        }
        Twins.Calls full = x -> {
            busy(x);
            perform(x, "");
            type(x, eighty.toString());
        };
        for (char letter : new char[] {'l', ';', 0, (char) 65535}) {
            refused(text("26: the buffer is full", letter), STATE, full, x -> x.feed(letter));
        }
    }

    private static void report() {
        for (int level : new int[] {0, 1, 2, -1, LOW, HIGH}) {
            refused(text("28: no report", level), ELEMENT, NOTHING, x -> x.report(level, 0));
            refused(text("28: no report first", level), ELEMENT, NOTHING, x -> x.report(level, 2));
        }
        for (int level : new int[] {-1, 2, LOW, HIGH}) {
            refused(text("28: level", level), ELEMENT, BUSY, x -> x.report(level, 0));
            refused(text("28: level before what", level), ELEMENT, BUSY, x -> x.report(level, -1));
        }
        for (int what : new int[] {-1, 2, LOW, HIGH}) {
            refused(text("28: what", what), ARGUMENT, BUSY, x -> x.report(0, what));
            refused(text("28: what of the cause", what), ARGUMENT, BUSY, x -> x.report(1, what));
        }
    }

    private static void undoAndRestore() {
        refused("29: nothing was changed", STATE, NOTHING, NewspaperMakeup::undo);
        refused("31: nothing was saved", STATE, NOTHING, NewspaperMakeup::restore);
        refused("29: all was taken back", STATE, x -> {
            x.addStory(0, 1, 1, 1, 0);
            x.undo();
        }, NewspaperMakeup::undo);
        refused("29: restored", STATE, x -> {
            busy(x);
            x.restore();
        }, NewspaperMakeup::undo);
        refused("31: nothing was saved, but changed", STATE, x -> {
            x.addStory(0, 1, 1, 1, 0);
            x.addAdvertisement(0, 0, 0, 1, 1, 1);
        }, NewspaperMakeup::restore);
    }

    /** No question, no look at the shelf's counts and no save is a change, or changes anything. */
    private static void questionsChangeNothing() {
        Twins.areAlike(CHECKS, "8 to 23: questions", x -> {
            busy(x);
            for (int story = 0; story < 6; story++) {
                askOf(x, story);
            }
            x.count(6);
            x.cellCount(1, 5);
            x.fill(1);
            x.unevenness(1);
            x.isSound();
            x.cell(0, 0, 0);
            x.owner(0, 0, 0);
            x.advertisement(0, 6);
            x.report(1, 1);
        }, BUSY);
        Twins.areAlike(CHECKS, "24: layDown of the same", x -> {
            busy(x);
            x.layDown(1, 2, false, 2);
        }, BUSY);
        Twins.areAlike(CHECKS, "30: saving twice", x -> {
            x.addStory(0, 1, 1, 1, 0);
            x.save();
            x.save();
        }, x -> {
            x.addStory(0, 1, 1, 1, 0);
            x.save();
        });
    }

    private static void askOf(NewspaperMakeup x, int story) {
        swallow(y -> y.story(story, 11), x);
        swallow(y -> y.part(story, 1, 6), x);
        swallow(y -> y.locate(story, 4), x);
        swallow(y -> y.ranked(story), x);
        swallow(y -> y.fate(story), x);
        swallow(y -> y.blamed(story), x);
        swallow(y -> y.linesIf(story, true), x);
        swallow(y -> y.linesIf(story, false), x);
        swallow(y -> y.trim(story), x);
    }
}
