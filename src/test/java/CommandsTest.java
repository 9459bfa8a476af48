import java.util.NoSuchElementException;

/** Promises 26 to 31: commands, undo and snapshots. */
public final class CommandsTest {
    private static final Class<IllegalArgumentException> ARGUMENT = IllegalArgumentException.class;
    private static final Class<IllegalStateException> STATE = IllegalStateException.class;
    private static final Class<NoSuchElementException> ELEMENT = NoSuchElementException.class;
    private static final Class<UnsupportedOperationException> UNSUPPORTED =
            UnsupportedOperationException.class;
    private static final Checks CHECKS = new Checks();

    public static void main(String[] args) {
        feed();
        performCarriesOut();
        errorPositions();
        errorsHaveNoEffect();
        failures();
        failuresHaveNoEffect();
        reportStays();
        wrongReports();
        undo();
        undoOfEveryChange();
        undoKeepsEight();
        saveAndRestore();
        CHECKS.end();
    }

    private static void type(NewspaperMakeup x, String text) {
        for (int at = 0; at < text.length(); at++) {
            x.feed(text.charAt(at));
        }
    }

    private static int perform(NewspaperMakeup x, String text) {
        type(x, text);
        return x.perform();
    }

    private static void feed() {
        NewspaperMakeup x = new NewspaperMakeup();
        for (int number = 1; number <= 80; number++) {
            int n = number;
            CHECKS.answers("26: letter " + n, n, () -> x.feed((char) (n * 811)));
        }
        CHECKS.refuses("26: full", STATE, () -> x.feed('s'));
        CHECKS.refuses("26: still full", STATE, () -> x.feed(';'));
        CHECKS.answers("27: strange letters", -100, x::perform);
        CHECKS.answers("26: empty after an error", 1, () -> x.feed('s'));
        CHECKS.refuses("26: no change", STATE, x::undo);
    }

    private static void performCarriesOut() {
        NewspaperMakeup x = new NewspaperMakeup();
        CHECKS.answers("27: four commands", 4,
                () -> perform(x, "s0,1,1,9,2;a0,0,5,1,2,003;p0,2,1;l0,1"));
        int[] due = {0, 1, 1, 9, 2, 2, 1, 1};
        for (int what = 0; what < due.length; what++) {
            int w = what;
            CHECKS.answers("27: story, number " + w, due[w], () -> x.story(0, w));
        }
        CHECKS.answers("27: advertisement", 6, () -> x.advertisement(0, 6));
        CHECKS.answers("27: empty afterwards", -100, x::perform);
        CHECKS.answers("27: zero is false", 1, () -> perform(x, "l0,000"));
        CHECKS.answers("27: not late", 0, () -> x.story(0, 7));
        CHECKS.answers("27: any other is true", 1, () -> perform(x, "l000,999"));
        CHECKS.answers("27: late", 1, () -> x.story(0, 7));
        CHECKS.answers("27: photo away", 1, () -> perform(x, "p0,0,0"));
        CHECKS.answers("27: none", 0, () -> x.story(0, 5));
        String sixteen = "l0,0;l0,0;l0,0;l0,0;l0,0;l0,0;l0,0;l0,0;l0,0;l0,0;l0,0;l0,0;l0,0;l0,0;l0,0;l0,0";
        CHECKS.answers("27: sixteen commands", 16, () -> perform(x, sixteen));
        CHECKS.answers("27: greatest numbers", 1, () -> perform(x, "s3,3,3,150,9"));
        CHECKS.answers("27: its lines", 150, () -> x.story(1, 3));
    }

    private static void errorPositions() {
        Object[][] due = {
            {"", 0}, {"x", 0}, {";", 0}, {"1", 0}, {"S", 0}, {" ", 0}, {"s", 1}, {"s,", 1},
            {"s;", 1}, {"ss", 1}, {"s0", 2}, {"s0,", 3}, {"s0,,", 3}, {"s0;", 2}, {"s0a", 2},
            {"s0000", 4}, {"s000", 4}, {"s0,1,1,9,2,", 10}, {"s0,1,1,9,2;", 11},
            {"s0,1,1,9;", 8}, {"s0,1,1,9", 8}, {"s0,1,1,9,2;;", 11}, {"s0,1,1,9,2 ", 10},
            {"a0,0,5,1,2;", 10}, {"a0,0,5,1,2,3,", 12}, {"a0,0,5,1,2", 10}, {"p0,2;", 4},
            {"p0,2,1,0", 6}, {"l0;", 2}, {"l0,", 3}, {"l0,;", 3}, {"l0,1;", 5}, {"l0,1,1", 4}, {"l0,1;x", 5}, {"l0,1;l", 6},
            {"l-1,1", 1}, {"l0,+1", 3}, {"l0,1s", 4}, {"l0,1000", 6}, {"l0,\u0661", 3}};
        for (Object[] d : due) {
            NewspaperMakeup x = new NewspaperMakeup();
            x.addStory(0, 1, 1, 1, 1);
            CHECKS.answers("27: error in '" + d[0] + "'", -100 - (int) d[1],
                    () -> perform(x, (String) d[0]));
        }
    }

    private static void errorsHaveNoEffect() {
        NewspaperMakeup x = new NewspaperMakeup();
        CHECKS.answers("27: error in the second", -112, () -> perform(x, "s0,1,1,9,2;s"));
        CHECKS.answers("27: no story", 0, () -> x.count(0));
        CHECKS.refuses("28: a syntax error leaves no report", ELEMENT, () -> x.report(0, 0));
        CHECKS.refuses("29: and no change", STATE, x::undo);
        CHECKS.answers("26: empty after an error", 1, () -> x.feed('l'));
    }

    private static void failure(String text, int command, int kind) {
        NewspaperMakeup x = new NewspaperMakeup();
        x.addStory(0, 1, 1, 1, 1);
        x.addAdvertisement(0, 0, 0, 1, 1, 1);
        CHECKS.refuses("27: '" + text + "'", UNSUPPORTED, () -> perform(x, text));
        CHECKS.answers("28: code of level 0", 1, () -> x.report(0, 0));
        CHECKS.answers("28: the command of '" + text + "'", command, () -> x.report(0, 1));
        CHECKS.answers("28: code of level 1", 2, () -> x.report(1, 0));
        CHECKS.answers("28: the kind of '" + text + "'", kind, () -> x.report(1, 1));
    }

    private static void failures() {
        failure("s4,1,1,1,1", 0, 1);
        failure("s0,0,1,1,1", 0, 2);
        failure("s0,1,1,151,1", 0, 2);
        failure("l0,1;s0,1,4,1,1", 1, 2);
        failure("a0,5,0,1,1,1", 0, 1);
        failure("a0,1,0,0,1,1", 0, 1);
        failure("a0,1,0,1,1,0", 0, 2);
        failure("a0,0,0,5,24,9", 0, 3);
        failure("p1,2,0", 0, 1);
        failure("p0,1,0", 0, 2);
        failure("p0,0,1", 0, 2);
        failure("p0,2,3;l9,0", 0, 2);
        failure("l1,0", 0, 1);
        failure("s0,1,1,1,1;l1,1;l2,1", 2, 1);
        failure("a1,0,0,1,1,1;a1,0,0,1,1,1", 1, 3);
    }

    private static void failuresHaveNoEffect() {
        NewspaperMakeup x = new NewspaperMakeup();
        for (int story = 0; story < 11; story++) {
            x.addStory(0, 1, 1, 1, 1);
        }
        CHECKS.refuses("27: too many stories", UNSUPPORTED,
                () -> perform(x, "l0,1;s0,1,1,1,1;p11,8,2;s0,1,1,1,1"));
        CHECKS.answers("28: the fourth command", 3, () -> x.report(0, 1));
        CHECKS.answers("28: its kind", 3, () -> x.report(1, 1));
        CHECKS.answers("27: no story was added", 11, () -> x.count(0));
        CHECKS.answers("27: none was made late", 0, () -> x.story(0, 7));
        CHECKS.answers("26: the buffer is empty", -100, x::perform);
        CHECKS.answers("29: no change", 7, x::undo);
        CHECKS.answers("27: numbers are not used up", 2, () -> perform(x, "s0,1,1,1,1;s0,1,1,1,1"));
        CHECKS.answers("27: twelve now", 12, () -> x.count(0));
    }

    private static void reportStays() {
        NewspaperMakeup x = new NewspaperMakeup();
        CHECKS.refuses("27: no story", UNSUPPORTED, () -> perform(x, "l0,1"));
        perform(x, "x");
        perform(x, "s0,1,1,1,1");
        x.undo();
        x.save();
        x.restore();
        CHECKS.answers("28: stays", 0, () -> x.report(0, 1));
        CHECKS.answers("28: its cause stays", 1, () -> x.report(1, 1));
        CHECKS.refuses("27: another", UNSUPPORTED, () -> perform(x, "s0,1,1,1,1;p0,9,0"));
        CHECKS.answers("28: replaced", 1, () -> x.report(0, 1));
        CHECKS.answers("28: its cause, too", 2, () -> x.report(1, 1));
    }

    private static void wrongReports() {
        NewspaperMakeup x = new NewspaperMakeup();
        for (int level = 0; level < 2; level++) {
            int l = level;
            CHECKS.refuses("28: no report", ELEMENT, () -> x.report(l, 0));
            CHECKS.refuses("28: no report first", ELEMENT, () -> x.report(l, 2));
        }
        CHECKS.refuses("27: no story", UNSUPPORTED, () -> perform(x, "l0,1"));
        for (int wrong : new int[] {-1, 2, Integer.MIN_VALUE, Integer.MAX_VALUE}) {
            CHECKS.refuses("28: level " + wrong, ELEMENT, () -> x.report(wrong, 0));
            CHECKS.refuses("28: level first", ELEMENT, () -> x.report(wrong, 2));
            CHECKS.refuses("28: what " + wrong, ARGUMENT, () -> x.report(0, wrong));
            CHECKS.refuses("28: what of level 1", ARGUMENT, () -> x.report(1, wrong));
        }
    }

    private static void undo() {
        NewspaperMakeup x = new NewspaperMakeup();
        x.addStory(0, 1, 1, 10, 1);
        x.change(0, 3, 20);
        x.setLate(0, false);
        CHECKS.answers("29: a change that changes nothing", 2, x::undo);
        CHECKS.answers("29: still 20", 20, () -> x.story(0, 3));
        CHECKS.answers("29: the lines", 1, x::undo);
        CHECKS.answers("29: 10 again", 10, () -> x.story(0, 3));
        CHECKS.answers("29: the cells again", 110, () -> 1 + x.cellCount(0, 0));
        CHECKS.answers("29: the story", 0, x::undo);
        CHECKS.answers("29: none", 0, () -> x.count(0));
        CHECKS.answers("29: all free", 120, () -> x.cellCount(0, 0));
        CHECKS.refuses("29: no more", STATE, x::undo);
        CHECKS.answers("29: the number is free again", 0, () -> x.addStory(0, 1, 1, 10, 1));
    }

    private static void undoOfEveryChange() {
        NewspaperMakeup x = new NewspaperMakeup();
        x.addAdvertisement(0, 0, 0, 1, 1, 1);
        x.addStory(0, 1, 1, 1, 1);
        x.setPhoto(0, 3, 1);
        x.setLate(0, true);
        x.change(0, 4, 9);
        x.layDown(0, 0, true, 0);
        x.remove(true, 0);
        x.takeUp(0, 0);
        perform(x, "l1,0;p1,0,0");
        CHECKS.answers("29: perform", 7, x::undo);
        CHECKS.answers("29: both commands", 4, () -> x.story(1, 5) + x.story(1, 7));
        CHECKS.answers("29: takeUp", 6, x::undo);
        CHECKS.answers("29: no story", 0, () -> x.count(0));
        CHECKS.answers("29: remove", 5, x::undo);
        CHECKS.answers("29: the priority", 9, () -> x.story(0, 4));
        CHECKS.answers("29: change", 4, x::undo);
        CHECKS.answers("29: the old one", 1, () -> x.story(0, 4));
        CHECKS.answers("29: setLate", 3, x::undo);
        CHECKS.answers("29: not late", 0, () -> x.story(0, 7));
        CHECKS.answers("29: setPhoto", 2, x::undo);
        CHECKS.answers("29: no photo", 0, () -> x.story(0, 5));
        CHECKS.answers("29: addStory", 1, x::undo);
        CHECKS.answers("29: none", 0, () -> x.count(0));
        CHECKS.answers("29: addAdvertisement", 0, x::undo);
        CHECKS.answers("29: none of them", 0, () -> x.count(1));
    }

    private static void undoKeepsEight() {
        NewspaperMakeup x = new NewspaperMakeup();
        x.addStory(0, 1, 1, 1, 1);
        for (int lines = 2; lines <= 20; lines++) {
            x.change(0, 3, lines);
        }
        for (int left = 7; left >= 5; left--) {
            CHECKS.answers("29: " + left + " left", left, x::undo);
        }
        CHECKS.answers("29: three taken back", 17, () -> x.story(0, 3));
        x.change(0, 3, 99);
        for (int left = 5; left >= 0; left--) {
            CHECKS.answers("29: then " + left + " left", left, x::undo);
        }
        CHECKS.answers("29: the oldest that is kept", 12, () -> x.story(0, 3));
        CHECKS.refuses("29: no more", STATE, x::undo);
    }

    private static void saveAndRestore() {
        NewspaperMakeup x = new NewspaperMakeup();
        CHECKS.refuses("31: nothing saved", STATE, x::restore);
        x.addStory(0, 1, 1, 10, 1);
        x.addAdvertisement(1, 0, 0, 1, 1, 1);
        CHECKS.answers("30: one story", 1, x::save);
        CHECKS.answers("30: no change for undo", 1, x::undo);
        x.addStory(0, 1, 1, 10, 1);
        x.change(0, 3, 20);
        CHECKS.answers("31: one story", 1, x::restore);
        CHECKS.refuses("31: no change can be taken back", STATE, x::undo);
        CHECKS.answers("31: its lines", 10, () -> x.story(0, 3));
        CHECKS.answers("31: the advertisement", 1, () -> x.count(1));
        CHECKS.answers("31: it is on its page", 1, () -> x.cell(1, 0, 0));
        CHECKS.answers("31: the number is free again", 1, () -> x.addStory(0, 1, 1, 10, 1));
        x.remove(true, 0);
        CHECKS.answers("31: it stays saved", 1, x::restore);
        x.addStory(0, 1, 1, 10, 1);
        CHECKS.answers("30: in place of it", 2, x::save);
        x.undo();
        CHECKS.answers("31: the later one", 2, x::restore);
        NewspaperMakeup empty = new NewspaperMakeup();
        CHECKS.answers("30: an empty one", 0, empty::save);
        empty.addStory(0, 1, 1, 1, 1);
        CHECKS.answers("31: an empty one", 0, empty::restore);
    }
}
