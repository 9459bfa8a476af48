/**
 * Runs of 512 calls on fresh objects, each call compared with PlainMakeup. The calls come from a
 * fixed formula, so that every run of the test makes the same ones. In every fourth run there are
 * no commands, whose letters use many of the calls up.
 */
public final class ComparedRunsTest {
    private static final int CALLS = 512;
    private static final int MOST_SHOWN = 20;
    private static int shown;
    private static int calls;
    private static long seed;
    private static String call;

    private interface Answer {
        Object get();
    }

    public static void main(String[] args) {
        int runs = args.length > 0 ? Integer.parseInt(args[0]) : 500;
        int first = args.length > 1 ? Integer.parseInt(args[1]) : 0;
        int wrong = 0;
        for (int run = first; run < first + runs; run++) {
            wrong += compareRun(run);
        }
        System.out.println(runs + " runs compared, " + wrong + " went apart");
        if (wrong > 0) {
            System.exit(1);
        }
    }

    private static int compareRun(int run) {
        seed = run * 7919L + 17;
        NewspaperMakeup x = new NewspaperMakeup();
        PlainMakeup y = new PlainMakeup();
        calls = 0;
        boolean fillsFirst = run % 4 != 3;
        boolean hasCommands = run % 4 != 1;
        while (calls < CALLS) {
            int kind = fillsFirst && calls < 24 ? next(5) : next(100);
            String got = hasCommands || !isCommands(kind) ? take(kind, x, y) : null;
            if (got != null) {
                if (shown++ < MOST_SHOWN) {
                    System.out.println("run " + run + ", call " + calls + ": " + call + got);
                }
                return 1;
            }
        }
        return 0;
    }

    private static boolean isCommands(int kind) {
        return kind >= 70 && kind < 80;
    }

    private static int next(int bound) {
        seed = seed * 6364136223846793005L + 1442695040888963407L;
        return (int) ((seed >>> 33) % bound);
    }

    /** Mostly a number from least to greatest, now and then one just outside, or far off. */
    private static int near(int least, int greatest) {
        int dice = next(60);
        if (dice == 0) {
            return least - 1;
        }
        if (dice == 1) {
            return greatest + 1;
        }
        if (dice == 2) {
            return next(2) == 0 ? Integer.MIN_VALUE : Integer.MAX_VALUE;
        }
        return least + next(greatest - least + 1);
    }

    /** Null if both answer the same, or have had all their calls. */
    private static String compare(String name, Answer x, Answer y) {
        if (calls >= CALLS) {
            return null;
        }
        calls++;
        Object got = answerOf(x);
        Object due = answerOf(y);
        call = name;
        return got.equals(due) ? null : " answered " + got + ", due is " + due;
    }

    private static Object answerOf(Answer answer) {
        try {
            return answer.get();
        } catch (RuntimeException e) {
            return e.getClass().getSimpleName();
        }
    }

    private static String take(int kind, NewspaperMakeup x, PlainMakeup y) {
        if (kind < 20) {
            return takeChange(kind, x, y);
        }
        if (kind < 40) {
            return takeRareChange(kind, x, y);
        }
        if (kind < 70) {
            return takeQuestion(kind, x, y);
        }
        return takeOther(kind, x, y);
    }

    private static String takeChange(int kind, NewspaperMakeup x, PlainMakeup y) {
        int story = near(0, 11);
        boolean flag = next(3) == 0;
        switch (kind) {
            case 0: {
                int page = near(0, 3);
                int column = near(0, 4);
                int row = near(0, 23);
                int width = next(4) == 0 ? near(1, 5) : near(1, Math.max(1, 5 - (column & 7)));
                int height = next(2) == 0 ? near(1, 24) : near(1, 3);
                int price = near(1, 999);
                return compare(text("addAdvertisement", page, column, row, width, height, price),
                        () -> x.addAdvertisement(page, column, row, width, height, price),
                        () -> y.addAdvertisement(page, column, row, width, height, price));
            }
            case 1: case 2: case 3: {
                int page = near(0, 3);
                int width = near(1, 3);
                int headline = near(1, 3);
                int lines = next(2) == 0 ? near(1, 150) : near(1, 40);
                int priority = next(2) == 0 ? near(0, 9) : 5;
                return compare(text("addStory", page, width, headline, lines, priority),
                        () -> x.addStory(page, width, headline, lines, priority),
                        () -> y.addStory(page, width, headline, lines, priority));
            }
            case 4: case 5: {
                int height = next(5) == 0 ? 0 : near(2, 8);
                int caption = next(5) == 0 ? 0 : near(0, 2);
                return compare(text("setPhoto", story, height, caption),
                        () -> x.setPhoto(story, height, caption),
                        () -> y.setPhoto(story, height, caption));
            }
            case 6: case 7: case 8: case 9:
                return compare(text("setLate", story) + flag, () -> x.setLate(story, flag),
                        () -> y.setLate(story, flag));
            default: {
                int what = near(0, 4);
                int value = next(2) == 0 ? near(0, 3) : what == 3 ? near(1, 150) : near(0, 9);
                return compare(text("change", story, what, value),
                        () -> x.change(story, what, value), () -> y.change(story, what, value));
            }
        }
    }

    private static String takeRareChange(int kind, NewspaperMakeup x, PlainMakeup y) {
        int row = near(0, 2);
        int place = near(0, 3);
        boolean flag = next(2) == 0;
        int number = near(0, flag ? 11 : 7);
        switch (kind) {
            case 20: case 21:
                return compare(text("remove", number) + flag, () -> x.remove(flag, number),
                        () -> y.remove(flag, number));
            case 22: case 23: case 24: case 25: case 26:
                return compare(text("layDown", row, place, number) + flag,
                        () -> x.layDown(row, place, flag, number),
                        () -> y.layDown(row, place, flag, number));
            case 27: case 28: case 29:
                return compare(text("takeUp", row, place), () -> x.takeUp(row, place),
                        () -> y.takeUp(row, place));
            case 30: case 31: case 32: case 33: case 34: case 35:
                return compare("undo", x::undo, y::undo);
            case 36:
                return next(2) == 0 ? compare("restore", x::restore, y::restore) : null;
            case 37:
                return compare("save", x::save, y::save);
            default:
                return compare("isSound", x::isSound, y::isSound);
        }
    }

    private static String takeQuestion(int kind, NewspaperMakeup x, PlainMakeup y) {
        int story = near(0, 11);
        int page = near(0, 3);
        int what = near(0, 12);
        boolean flag = next(2) == 0;
        switch (kind % 15) {
            case 0: {
                int column = near(0, 4);
                int row = near(0, 23);
                return compare(text("cell", page, column, row), () -> x.cell(page, column, row),
                        () -> y.cell(page, column, row));
            }
            case 1: {
                int column = near(0, 4);
                int row = near(0, 23);
                return compare(text("owner", page, column, row), () -> x.owner(page, column, row),
                        () -> y.owner(page, column, row));
            }
            case 2: case 3: {
                int part = next(2) == 0 ? 0 : near(0, 3);
                int w = near(0, 7);
                return compare(text("part", story, part, w), () -> x.part(story, part, w),
                        () -> y.part(story, part, w));
            }
            case 4: {
                int line = next(2) == 0 ? near(0, 149) : near(0, 30);
                return compare(text("locate", story, line), () -> x.locate(story, line),
                        () -> y.locate(story, line));
            }
            case 5:
                return compare(text("ranked", story), () -> x.ranked(story), () -> y.ranked(story));
            case 6:
                return compare(text("fate", story), () -> x.fate(story), () -> y.fate(story));
            case 7: case 8:
                return compare(text("blamed", story), () -> x.blamed(story),
                        () -> y.blamed(story));
            case 9:
                return compare(text("linesIf", story) + flag, () -> x.linesIf(story, flag),
                        () -> y.linesIf(story, flag));
            case 10:
                return compare(text("trim", story), () -> x.trim(story), () -> y.trim(story));
            case 11: {
                int w = near(0, 7);
                return compare(text("count", w), () -> x.count(w), () -> y.count(w));
            }
            case 12: {
                int k = near(0, 8);
                return compare(text("cellCount", page, k), () -> x.cellCount(page, k),
                        () -> y.cellCount(page, k));
            }
            case 13:
                return flag ? compare(text("fill", page), () -> x.fill(page), () -> y.fill(page))
                        : compare(text("unevenness", page), () -> x.unevenness(page),
                                () -> y.unevenness(page));
            default:
                return compare(text("story", story, what), () -> x.story(story, what),
                        () -> y.story(story, what));
        }
    }

    private static String takeOther(int kind, NewspaperMakeup x, PlainMakeup y) {
        if (isCommands(kind)) {
            return takeCommands(x, y);
        }
        int level = near(0, 1);
        int what = near(0, 6);
        if (kind < 84) {
            return compare(text("report", level, what & 1), () -> x.report(level, what & 1),
                    () -> y.report(level, what & 1));
        }
        if (kind < 86) {
            int ad = near(0, 7);
            return compare(text("advertisement", ad, what), () -> x.advertisement(ad, what),
                    () -> y.advertisement(ad, what));
        }
        if (kind == 86) {
            return compare(text("report", level, what), () -> x.report(level, what),
                    () -> y.report(level, what));
        }
        return takeQuestion(kind, x, y);
    }

    private static String takeCommands(NewspaperMakeup x, PlainMakeup y) {
        StringBuilder text = new StringBuilder();
        int commands = 1 + next(4);
        for (int number = 0; number < commands; number++) {
            text.append(number > 0 ? ";" : "").append(command());
        }
        if (next(5) == 0) {
            int at = next(text.length());
            text.setCharAt(at, "sapl;,0123456789x-".charAt(next(18)));
        }
        if (next(9) == 0) {
            text.setLength(next(text.length() + 1));
        }
        for (int at = 0; at < text.length(); at++) {
            char letter = text.charAt(at);
            String wrong = compare("feed " + letter, () -> x.feed(letter), () -> y.feed(letter));
            if (wrong != null) {
                return wrong;
            }
        }
        return compare("perform " + text, x::perform, y::perform);
    }

    private static String command() {
        switch (next(5)) {
            case 0:
                return "s" + digits(3) + "," + (1 + next(3)) + "," + (1 + next(3)) + ","
                        + (1 + next(155)) + "," + digits(9);
            case 1:
                return "a" + digits(3) + "," + digits(4) + "," + digits(23) + "," + (1 + next(2))
                        + "," + (1 + next(3)) + "," + digits(999);
            case 2:
                return "p" + digits(8) + "," + digits(8) + "," + digits(2);
            default:
                return "l" + digits(8) + "," + digits(1);
        }
    }

    private static String digits(int greatest) {
        int number = next(20) == 0 ? next(1000) : next(greatest + 1);
        return next(10) == 0 && number < 100 ? "0" + number : String.valueOf(number);
    }

    private static String text(String name, int... numbers) {
        StringBuilder text = new StringBuilder(name);
        for (int number : numbers) {
            text.append(' ').append(number);
        }
        return text.append(' ').toString();
    }
}
