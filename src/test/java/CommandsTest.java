import java.util.NoSuchElementException;

/** Promises 26 to 31: commands, undo and snapshots. */
public final class CommandsTest {
    private static final Class<IllegalArgumentException> ARGUMENT = IllegalArgumentException.class;
    private static final Class<IllegalStateException> STATE = IllegalStateException.class;
    private static final Class<NoSuchElementException> ELEMENT = NoSuchElementException.class;
    private static final Class<UnsupportedOperationException> UNSUPPORTED =
            UnsupportedOperationException.class;
    private static final Checks CHECKS = new Checks();

    public static void main(String[] args) {
        feed();
        performCarriesOut();
        performLaysOut();
        performsOneAfterTheOther();
        eachCommandMayBeFirst();
        errorPositions();
        errorPositionsOfAFullBuffer();
        numbersTooFewOrTooMany();
        errorsHaveNoEffect();
        failures();
        failuresHaveNoEffect();
        reportStays();
        wrongReports();
        undo();
        undoOfEveryChange();
        undoKeepsEight();
        undoOfExactlyEight();
        changesThatChangeNothing();
        undoBringsAdvertisementsBack();
        undoLeavesTheRest();
        saveAndRestore();
        whatWasSavedStays();
        changesAfterRestore();
        CHECKS.end();
    }

    private static void type(NewspaperMakeup x, String text) {
        for (int at = 0; at < text.length(); at++) {
            x.feed(text.charAt(at));
        }
    }

    private static int perform(NewspaperMakeup x, String text) {
        type(x, text);
        return x.perform();
    }

    private static void feed() {
        NewspaperMakeup x = new NewspaperMakeup();
        for (int number = 1; number <= 80; number++) {
            int n = number;
            CHECKS.answers("26: letter " + n, n, () -> x.feed((char) (n * 811)));
        }
        CHECKS.refuses("26: full", STATE, () -> x.feed('s'));
        CHECKS.refuses("26: still full", STATE, () -> x.feed(';'));
        CHECKS.answers("27: strange letters", -100, x::perform);
        CHECKS.answers("26: empty after an error", 1, () -> x.feed('s'));
        CHECKS.refuses("26: no change", STATE, x::undo);
    }

    private static void performCarriesOut() {
        NewspaperMakeup x = new NewspaperMakeup();
        CHECKS.answers("27: four commands", 4,
                () -> perform(x, "s0,1,1,9,2;a0,0,5,1,2,003;p0,2,1;l0,1"));
        int[] due = {0, 1, 1, 9, 2, 2, 1, 1};
        for (int what = 0; what < due.length; what++) {
            int w = what;
            CHECKS.answers("27: story, number " + w, due[w], () -> x.story(0, w));
        }
        CHECKS.answers("27: advertisement", 6, () -> x.advertisement(0, 6));
        CHECKS.answers("27: empty afterwards", -100, x::perform);
        CHECKS.answers("27: zero is false", 1, () -> perform(x, "l0,000"));
        CHECKS.answers("27: not late", 0, () -> x.story(0, 7));
        CHECKS.answers("27: any other is true", 1, () -> perform(x, "l000,999"));
        CHECKS.answers("27: late", 1, () -> x.story(0, 7));
        CHECKS.answers("27: photo away", 1, () -> perform(x, "p0,0,0"));
        CHECKS.answers("27: none", 0, () -> x.story(0, 5));
        String sixteen = "l0,0;l0,0;l0,0;l0,0;l0,0;l0,0;l0,0;l0,0;l0,0;l0,0;l0,0;l0,0;l0,0;l0,0;l0,0;l0,0";
        CHECKS.answers("27: sixteen commands", 16, () -> perform(x, sixteen));
        CHECKS.answers("27: greatest numbers", 1, () -> perform(x, "s3,3,3,150,9"));
        CHECKS.answers("27: its lines", 150, () -> x.story(1, 3));
    }

    private static void performLaysOut() {
        NewspaperMakeup x = new NewspaperMakeup();
        perform(x, "a3,1,20,2,4,10;s3,1,1,9,0;s3,2,1,8,0");
        int[] due = {3, 1, 20, 2, 4, 10, 80};
        for (int what = 0; what < due.length; what++) {
            int w = what;
            CHECKS.answers("27: advertisement, number " + w, due[w], () -> x.advertisement(0, w));
        }
        CHECKS.answers("27: the advertisement is on its page", 100, () -> x.owner(3, 2, 23));
        CHECKS.answers("27: the first story", 3009, () -> x.locate(0, 8));
        CHECKS.answers("27: the second story", 3201, () -> x.locate(1, 4));
        perform(x, "l1,1");
        CHECKS.answers("27: late, so it goes first", 3101, () -> x.locate(1, 4));
        perform(x, "p1,2,2");
        CHECKS.answers("27: below photo and caption", 3105, () -> x.locate(1, 4));
    }

    private static void performsOneAfterTheOther() {
        NewspaperMakeup x = new NewspaperMakeup();
        x.addStory(0, 1, 1, 1, 0);
        for (int time = 1; time <= 20; time++) {
            boolean late = time % 2 == 1;
            CHECKS.answers("27: text " + time, 3,
                    () -> perform(x, late ? "p0,8,2;p0,2,1;l0,7" : "p0,3,0;p0,4,2;l0,0"));
            CHECKS.answers("27: late after text " + time, late ? 1 : 0, () -> x.story(0, 7));
            CHECKS.answers("27: photo after text " + time, late ? 2 : 4, () -> x.story(0, 5));
        }
        CHECKS.answers("27: an error after them", -102, () -> perform(x, "p0"));
        CHECKS.answers("27: and a text after it", 1, () -> perform(x, "p0,0,0"));
        CHECKS.answers("27: only its own command", 0, () -> x.story(0, 5) + x.story(0, 7));
    }

    private static void eachCommandMayBeFirst() {
        String[] commands = {"s1,2,3,4,5", "a1,2,3,1,1,6", "p0,2,1", "l0,1"};
        for (String first : commands) {
            for (String second : commands) {
                NewspaperMakeup x = new NewspaperMakeup();
                x.addStory(0, 1, 1, 1, 0);
                String text = first + ";" + second;
                if (text.equals(commands[1] + ";" + commands[1])) {
                    CHECKS.refuses("27: " + text, UNSUPPORTED, () -> perform(x, text));
                } else {
                    CHECKS.answers("27: " + text, 2, () -> perform(x, text));
                }
            }
        }
    }

    private static void errorPositionsOfAFullBuffer() {
        String fifteen = "l0,0;".repeat(15);
        Object[][] due = {{fifteen + "l0,01", 16}, {fifteen + "l00,1", 16}, {fifteen + "l0,0;", -180},
            {fifteen + "l000,", -180}, {fifteen + "l0,0,", -179}, {fifteen + "l0000", -179},
            {fifteen + "s0,1,", -180}, {"l0,0;".repeat(16), -180}, {"l".repeat(80), -101},
            {"s0,1,1,1,1;".repeat(7) + "p0,", -180}, {"s0,1,1,1,1;".repeat(7) + "p0;", -179}};
        for (Object[] d : due) {
            NewspaperMakeup x = new NewspaperMakeup();
            x.addStory(0, 1, 1, 1, 1);
            CHECKS.answers("27: 80 letters '" + d[0] + "'", d[1], () -> perform(x, (String) d[0]));
            CHECKS.answers("26: empty after 80 letters", 1, () -> x.feed('l'));
            CHECKS.answers("27: the text after it", -101, x::perform);
        }
    }

    private static void numbersTooFewOrTooMany() {
        char[] letters = {'s', 'a', 'p', 'l'};
        int[] sizes = {5, 6, 3, 2};
        for (int at = 0; at < letters.length; at++) {
            for (int numbers = 1; numbers <= 8; numbers++) {
                if (numbers == sizes[at]) {
                    continue;
                }
                String text = letters[at] + "1" + ",1".repeat(numbers - 1);
                boolean isShort = numbers < sizes[at];
                int position = 2 * (isShort ? numbers : sizes[at]);
                error(text, position);
                error(text + ";l0,1", position);
                error("l0,1;" + text, position + 5);
            }
        }
    }

    private static void error(String text, int position) {
        NewspaperMakeup x = new NewspaperMakeup();
        x.addStory(0, 1, 1, 1, 1);
        CHECKS.answers("27: error in '" + text + "'", -100 - position, () -> perform(x, text));
        CHECKS.answers("27: no effect of '" + text + "'", 0, () -> x.story(0, 7));
        CHECKS.refuses("28: no report of '" + text + "'", ELEMENT, () -> x.report(0, 0));
        CHECKS.answers("29: no change by '" + text + "'", 0, x::undo);
    }

    private static void errorPositions() {
        Object[][] due = {
            {"", 0}, {"x", 0}, {";", 0}, {"1", 0}, {"S", 0}, {" ", 0}, {"s", 1}, {"s,", 1},
            {"s;", 1}, {"ss", 1}, {"s0", 2}, {"s0,", 3}, {"s0,,", 3}, {"s0;", 2}, {"s0a", 2},
            {"s0000", 4}, {"s000", 4}, {"s0,1,1,9,2,", 10}, {"s0,1,1,9,2;", 11},
            {"s0,1,1,9;", 8}, {"s0,1,1,9", 8}, {"s0,1,1,9,2;;", 11}, {"s0,1,1,9,2 ", 10},
            {"a0,0,5,1,2;", 10}, {"a0,0,5,1,2,3,", 12}, {"a0,0,5,1,2", 10}, {"p0,2;", 4},
            {"p0,2,1,0", 6}, {"l0;", 2}, {"l0,", 3}, {"l0,;", 3}, {"l0,1;", 5}, {"l0,1,1", 4}, {"l0,1;x", 5}, {"l0,1;l", 6},
            {"l-1,1", 1}, {"l0,+1", 3}, {"l0,1s", 4}, {"l0,1000", 6}, {"l0,\u0661", 3}};
        for (Object[] d : due) {
            NewspaperMakeup x = new NewspaperMakeup();
            x.addStory(0, 1, 1, 1, 1);
            CHECKS.answers("27: error in '" + d[0] + "'", -100 - (int) d[1],
                    () -> perform(x, (String) d[0]));
        }
    }

    private static void errorsHaveNoEffect() {
        NewspaperMakeup x = new NewspaperMakeup();
        CHECKS.answers("27: error in the second", -112, () -> perform(x, "s0,1,1,9,2;s"));
        CHECKS.answers("27: no story", 0, () -> x.count(0));
        CHECKS.refuses("28: a syntax error leaves no report", ELEMENT, () -> x.report(0, 0));
        CHECKS.refuses("29: and no change", STATE, x::undo);
        CHECKS.answers("26: empty after an error", 1, () -> x.feed('l'));
    }

    private static void failure(String text, int command, int kind) {
        NewspaperMakeup x = new NewspaperMakeup();
        x.addStory(0, 1, 1, 1, 1);
        x.addAdvertisement(0, 0, 0, 1, 1, 1);
        CHECKS.refuses("27: '" + text + "'", UNSUPPORTED, () -> perform(x, text));
        CHECKS.answers("28: code of level 0", 1, () -> x.report(0, 0));
        CHECKS.answers("28: the command of '" + text + "'", command, () -> x.report(0, 1));
        CHECKS.answers("28: code of level 1", 2, () -> x.report(1, 0));
        CHECKS.answers("28: the kind of '" + text + "'", kind, () -> x.report(1, 1));
    }

    private static void failures() {
        failure("s4,1,1,1,1", 0, 1);
        failure("s0,0,1,1,1", 0, 2);
        failure("s0,1,1,151,1", 0, 2);
        failure("l0,1;s0,1,4,1,1", 1, 2);
        failure("a0,5,0,1,1,1", 0, 1);
        failure("a0,1,0,0,1,1", 0, 1);
        failure("a0,1,0,1,1,0", 0, 2);
        failure("a0,0,0,5,24,9", 0, 3);
        failure("p1,2,0", 0, 1);
        failure("p0,1,0", 0, 2);
        failure("p0,0,1", 0, 2);
        failure("p0,2,3;l9,0", 0, 2);
        failure("l1,0", 0, 1);
        failure("s0,1,1,1,1;l1,1;l2,1", 2, 1);
        failure("a1,0,0,1,1,1;a1,0,0,1,1,1", 1, 3);
    }

    private static void failuresHaveNoEffect() {
        NewspaperMakeup x = new NewspaperMakeup();
        for (int story = 0; story < 11; story++) {
            x.addStory(0, 1, 1, 1, 1);
        }
        CHECKS.refuses("27: too many stories", UNSUPPORTED,
                () -> perform(x, "l0,1;s0,1,1,1,1;p11,8,2;s0,1,1,1,1"));
        CHECKS.answers("28: the fourth command", 3, () -> x.report(0, 1));
        CHECKS.answers("28: its kind", 3, () -> x.report(1, 1));
        CHECKS.answers("27: no story was added", 11, () -> x.count(0));
        CHECKS.answers("27: none was made late", 0, () -> x.story(0, 7));
        CHECKS.answers("26: the buffer is empty", -100, x::perform);
        CHECKS.answers("29: no change", 7, x::undo);
        CHECKS.answers("27: numbers are not used up", 2, () -> perform(x, "s0,1,1,1,1;s0,1,1,1,1"));
        CHECKS.answers("27: twelve now", 12, () -> x.count(0));
    }

    private static void reportStays() {
        NewspaperMakeup x = new NewspaperMakeup();
        CHECKS.refuses("27: no story", UNSUPPORTED, () -> perform(x, "l0,1"));
        perform(x, "x");
        perform(x, "s0,1,1,1,1");
        x.undo();
        x.save();
        x.restore();
        CHECKS.answers("28: stays", 0, () -> x.report(0, 1));
        CHECKS.answers("28: its cause stays", 1, () -> x.report(1, 1));
        CHECKS.refuses("27: another", UNSUPPORTED, () -> perform(x, "s0,1,1,1,1;p0,9,0"));
        CHECKS.answers("28: replaced", 1, () -> x.report(0, 1));
        CHECKS.answers("28: its cause, too", 2, () -> x.report(1, 1));
    }

    private static void wrongReports() {
        NewspaperMakeup x = new NewspaperMakeup();
        for (int level = 0; level < 2; level++) {
            int l = level;
            CHECKS.refuses("28: no report", ELEMENT, () -> x.report(l, 0));
            CHECKS.refuses("28: no report first", ELEMENT, () -> x.report(l, 2));
        }
        CHECKS.refuses("27: no story", UNSUPPORTED, () -> perform(x, "l0,1"));
        for (int wrong : new int[] {-1, 2, Integer.MIN_VALUE, Integer.MAX_VALUE}) {
            CHECKS.refuses("28: level " + wrong, ELEMENT, () -> x.report(wrong, 0));
            CHECKS.refuses("28: level first", ELEMENT, () -> x.report(wrong, 2));
            CHECKS.refuses("28: what " + wrong, ARGUMENT, () -> x.report(0, wrong));
            CHECKS.refuses("28: what of level 1", ARGUMENT, () -> x.report(1, wrong));
        }
    }

    private static void undo() {
        NewspaperMakeup x = new NewspaperMakeup();
        x.addStory(0, 1, 1, 10, 1);
        x.change(0, 3, 20);
        x.setLate(0, false);
        CHECKS.answers("29: a change that changes nothing", 2, x::undo);
        CHECKS.answers("29: still 20", 20, () -> x.story(0, 3));
        CHECKS.answers("29: the lines", 1, x::undo);
        CHECKS.answers("29: 10 again", 10, () -> x.story(0, 3));
        CHECKS.answers("29: the cells again", 110, () -> 1 + x.cellCount(0, 0));
        CHECKS.answers("29: the story", 0, x::undo);
        CHECKS.answers("29: none", 0, () -> x.count(0));
        CHECKS.answers("29: all free", 120, () -> x.cellCount(0, 0));
        CHECKS.refuses("29: no more", STATE, x::undo);
        CHECKS.answers("29: the number is free again", 0, () -> x.addStory(0, 1, 1, 10, 1));
    }

    private static void undoOfEveryChange() {
        NewspaperMakeup x = new NewspaperMakeup();
        x.addAdvertisement(0, 0, 0, 1, 1, 1);
        x.addStory(0, 1, 1, 1, 1);
        x.setPhoto(0, 3, 1);
        x.setLate(0, true);
        x.change(0, 4, 9);
        x.layDown(0, 0, true, 0);
        x.remove(true, 0);
        x.takeUp(0, 0);
        perform(x, "l1,0;p1,0,0");
        CHECKS.answers("29: perform", 7, x::undo);
        CHECKS.answers("29: both commands", 4, () -> x.story(1, 5) + x.story(1, 7));
        CHECKS.answers("29: takeUp", 6, x::undo);
        CHECKS.answers("29: no story", 0, () -> x.count(0));
        CHECKS.answers("29: remove", 5, x::undo);
        CHECKS.answers("29: the priority", 9, () -> x.story(0, 4));
        CHECKS.answers("29: change", 4, x::undo);
        CHECKS.answers("29: the old one", 1, () -> x.story(0, 4));
        CHECKS.answers("29: setLate", 3, x::undo);
        CHECKS.answers("29: not late", 0, () -> x.story(0, 7));
        CHECKS.answers("29: setPhoto", 2, x::undo);
        CHECKS.answers("29: no photo", 0, () -> x.story(0, 5));
        CHECKS.answers("29: addStory", 1, x::undo);
        CHECKS.answers("29: none", 0, () -> x.count(0));
        CHECKS.answers("29: addAdvertisement", 0, x::undo);
        CHECKS.answers("29: none of them", 0, () -> x.count(1));
    }

    private static void undoKeepsEight() {
        NewspaperMakeup x = new NewspaperMakeup();
        x.addStory(0, 1, 1, 1, 1);
        for (int lines = 2; lines <= 20; lines++) {
            x.change(0, 3, lines);
        }
        for (int left = 7; left >= 5; left--) {
            CHECKS.answers("29: " + left + " left", left, x::undo);
        }
        CHECKS.answers("29: three taken back", 17, () -> x.story(0, 3));
        x.change(0, 3, 99);
        for (int left = 5; left >= 0; left--) {
            CHECKS.answers("29: then " + left + " left", left, x::undo);
        }
        CHECKS.answers("29: the oldest that is kept", 12, () -> x.story(0, 3));
        CHECKS.refuses("29: no more", STATE, x::undo);
    }

    private static void undoOfExactlyEight() {
        NewspaperMakeup x = new NewspaperMakeup();
        for (int story = 0; story < 8; story++) {
            x.addStory(0, 1, 1, 1, 1);
        }
        for (int left = 7; left >= 0; left--) {
            int l = left;
            CHECKS.answers("29: of eight are left", l, x::undo);
            CHECKS.answers("29: stories left", l, () -> x.count(0));
        }
        CHECKS.refuses("29: no ninth", STATE, x::undo);
        for (int story = 0; story < 9; story++) {
            x.addStory(0, 1, 1, 1, 1);
        }
        for (int left = 7; left >= 0; left--) {
            CHECKS.answers("29: of nine are left", left, x::undo);
        }
        CHECKS.refuses("29: not the ninth", STATE, x::undo);
        CHECKS.answers("29: the first story stays", 1, () -> x.count(0));
        CHECKS.answers("29: the next number", 1, () -> x.addStory(0, 1, 1, 1, 1));
    }

    private static void changesThatChangeNothing() {
        NewspaperMakeup x = new NewspaperMakeup();
        x.addStory(0, 1, 1, 1, 1);
        x.setPhoto(0, 0, 0);
        x.setLate(0, false);
        x.change(0, 0, 0);
        x.change(0, 3, 1);
        perform(x, "l0,0");
        perform(x, "p0,0,0;l0,1;l0,0");
        for (int left = 6; left >= 0; left--) {
            CHECKS.answers("29: the story is there", 1, () -> x.count(0));
            CHECKS.answers("29: also if everything stays the same", left, x::undo);
        }
        CHECKS.answers("29: the story is gone", 0, () -> x.count(0));
    }

    private static void undoBringsAdvertisementsBack() {
        NewspaperMakeup x = new NewspaperMakeup();
        for (int number = 0; number < 8; number++) {
            x.addAdvertisement(number / 2, 2, 12 * (number % 2), 3, 12, 991 + number);
        }
        for (int number = 7; number >= 0; number--) {
            x.remove(false, number);
        }
        CHECKS.answers("7: none remains", 0, () -> x.count(1));
        for (int number = 0; number < 8; number++) {
            int n = number;
            CHECKS.answers("29: back is advertisement " + n, 7 - n, x::undo);
            int[] due = {n / 2, 2, 12 * (n % 2), 3, 12, 991 + n, 36 * (991 + n)};
            for (int what = 0; what < due.length; what++) {
                int w = what;
                CHECKS.answers("29: its number " + w, due[w], () -> x.advertisement(n, w));
            }
            CHECKS.answers("29: its cells", 100 + n, () -> x.owner(n / 2, 4, 12 * (n % 2)));
        }
        CHECKS.refuses("2: there have been 8", STATE, () -> x.addAdvertisement(0, 0, 0, 1, 1, 1));
    }

    private static void undoLeavesTheRest() {
        NewspaperMakeup x = new NewspaperMakeup();
        x.addStory(0, 1, 1, 1, 1);
        x.layDown(0, 0, true, 0);
        x.save();
        x.change(0, 3, 7);
        type(x, "l0,");
        CHECKS.answers("29: not feed, save or layDown", 1, x::undo);
        CHECKS.answers("29: the buffer stays", 4, () -> x.feed('1'));
        CHECKS.answers("29: undo of the story", 0, x::undo);
        CHECKS.answers("29: the shelf stays", 0, () -> x.takeUp(0, 0));
        CHECKS.answers("27: the text in the buffer", 1, x::perform);
        CHECKS.answers("29: two changes again", 1, x::undo);
        CHECKS.answers("29: not late any more", 0, () -> x.story(0, 7));
        x.undo();
        CHECKS.answers("31: what was saved stays", 1, x::restore);
    }

    private static void whatWasSavedStays() {
        NewspaperMakeup x = new NewspaperMakeup();
        x.addStory(2, 3, 2, 77, 6);
        x.setPhoto(0, 5, 2);
        x.setLate(0, true);
        x.addAdvertisement(1, 2, 3, 2, 4, 55);
        x.save();
        int[] due = {2, 3, 2, 77, 6, 5, 2, 1};
        int[] advertisement = {1, 2, 3, 2, 4, 55};
        for (int time = 0; time < 2; time++) {
            x.change(0, 0, 1);
            x.setPhoto(0, 0, 0);
            perform(x, "l0,0;a1,0,0,2,3,4;s0,1,1,1,1");
            x.remove(false, 0);
            x.remove(true, 0);
            CHECKS.answers("31: stories of what was saved", 1, x::restore);
            for (int what = 0; what < due.length; what++) {
                int w = what;
                CHECKS.answers("31: story, number " + w, due[w], () -> x.story(0, w));
            }
            for (int what = 0; what < advertisement.length; what++) {
                int w = what;
                CHECKS.answers("31: advertisement, number " + w, advertisement[w],
                        () -> x.advertisement(0, w));
            }
            CHECKS.answers("31: on its page", 0, () -> x.owner(2, 2, 0));
            CHECKS.answers("31: the advertisement's cell", 1, () -> x.cell(1, 3, 6));
            CHECKS.answers("31: one of each", 11, () -> 10 * x.count(0) + x.count(1));
        }
        x.remove(true, 0);
        CHECKS.answers("30: no story", 0, x::save);
        x.addStory(0, 1, 1, 1, 1);
        CHECKS.answers("31: in place of what was saved before", 0, x::restore);
        CHECKS.answers("31: the removed one's number is not used again", 1,
                () -> x.addStory(0, 1, 1, 1, 1));
    }

    private static void changesAfterRestore() {
        NewspaperMakeup x = new NewspaperMakeup();
        for (int story = 0; story < 12; story++) {
            x.addStory(0, 1, 1, 1, 1);
        }
        CHECKS.answers("30: twelve", 12, x::save);
        CHECKS.answers("31: twelve", 12, x::restore);
        CHECKS.refuses("31: no change can be taken back", STATE, x::undo);
        CHECKS.refuses("31: there have been 12", STATE, () -> x.addStory(0, 1, 1, 1, 1));
        x.change(4, 3, 9);
        CHECKS.answers("31: but one afterwards", 0, x::undo);
        CHECKS.answers("31: it is taken back", 1, () -> x.story(4, 3));
        CHECKS.refuses("31: no other", STATE, x::undo);
        x.change(4, 3, 9);
        x.restore();
        CHECKS.answers("31: restored again", 1, () -> x.story(4, 3));
        CHECKS.refuses("31: no change can be taken back again", STATE, x::undo);
    }

    private static void saveAndRestore() {
        NewspaperMakeup x = new NewspaperMakeup();
        CHECKS.refuses("31: nothing saved", STATE, x::restore);
        x.addStory(0, 1, 1, 10, 1);
        x.addAdvertisement(1, 0, 0, 1, 1, 1);
        CHECKS.answers("30: one story", 1, x::save);
        CHECKS.answers("30: no change for undo", 1, x::undo);
        x.addStory(0, 1, 1, 10, 1);
        x.change(0, 3, 20);
        CHECKS.answers("31: one story", 1, x::restore);
        CHECKS.refuses("31: no change can be taken back", STATE, x::undo);
        CHECKS.answers("31: its lines", 10, () -> x.story(0, 3));
        CHECKS.answers("31: the advertisement", 1, () -> x.count(1));
        CHECKS.answers("31: it is on its page", 1, () -> x.cell(1, 0, 0));
        CHECKS.answers("31: the number is free again", 1, () -> x.addStory(0, 1, 1, 10, 1));
        x.remove(true, 0);
        CHECKS.answers("31: it stays saved", 1, x::restore);
        x.addStory(0, 1, 1, 10, 1);
        CHECKS.answers("30: in place of it", 2, x::save);
        x.undo();
        CHECKS.answers("31: the later one", 2, x::restore);
        NewspaperMakeup empty = new NewspaperMakeup();
        CHECKS.answers("30: an empty one", 0, empty::save);
        empty.addStory(0, 1, 1, 1, 1);
        CHECKS.answers("31: an empty one", 0, empty::restore);
    }
}
