/**
 * Compares two objects by all that can be asked of them, and by what they keep: the changes that
 * can be taken back, what was saved, the shelf and the input buffer. Each survey gets fresh objects
 * that are brought to the same point again, so that none is used for more than 512 calls.
 */
final class Twins {
    interface Calls {
        void on(NewspaperMakeup x);
    }

    private static final String[] SURVEYS = {"page 0", "page 1", "page 2", "page 3", "stories",
        "parts", "accounts", "undo", "saved", "shelf", "buffer", "commands"};

    private Twins() { }

    static void areAlike(Checks checks, String name, Calls one, Calls other) {
        for (int survey = 0; survey < SURVEYS.length; survey++) {
            String got = answers(one, survey);
            String due = answers(other, survey);
            checks.isTrue(name + ", " + SURVEYS[survey] + ": " + got + " instead of " + due,
                    got.equals(due));
        }
    }

    private static String answers(Calls calls, int survey) {
        NewspaperMakeup x = new NewspaperMakeup();
        calls.on(x);
        StringBuilder answers = new StringBuilder();
        switch (survey) {
            case 4:
                stories(x, answers);
                break;
            case 5:
                parts(x, answers);
                break;
            case 6:
                accounts(x, answers);
                break;
            case 7:
                undo(x, answers);
                break;
            case 8:
                add(answers, x::restore);
                numbers(x, answers);
                add(answers, x::undo);
                break;
            case 9:
                shelf(x, answers);
                break;
            case 10:
                add(answers, () -> x.feed('?'));
                add(answers, x::perform);
                break;
            case 11:
                add(answers, x::perform);
                numbers(x, answers);
                break;
            default:
                page(x, survey, answers);
                break;
        }
        return answers.toString();
    }

    private static void add(StringBuilder answers, Checks.Call call) {
        Object answer;
        try {
            answer = call.answer();
        } catch (RuntimeException e) {
            answer = e.getClass().getSimpleName().charAt(0);
        }
        answers.append(answer).append(' ');
    }

    private static void page(NewspaperMakeup x, int page, StringBuilder answers) {
        for (int row = 0; row < 24; row++) {
            for (int column = 0; column < 5; column++) {
                int r = row;
                int c = column;
                add(answers, () -> x.cell(page, c, r));
                add(answers, () -> x.owner(page, c, r));
            }
        }
    }

    private static void stories(NewspaperMakeup x, StringBuilder answers) {
        for (int story = 0; story < 12; story++) {
            int s = story;
            for (int what = 0; what <= 12; what++) {
                int w = what;
                add(answers, () -> x.story(s, w));
            }
            add(answers, () -> x.ranked(s));
            add(answers, () -> x.fate(s));
            add(answers, () -> x.blamed(s));
            add(answers, () -> x.linesIf(s, false));
            add(answers, () -> x.linesIf(s, true));
            add(answers, () -> x.trim(s));
            add(answers, () -> x.locate(s, 0));
            add(answers, () -> x.locate(s, 40));
        }
    }

    private static void parts(NewspaperMakeup x, StringBuilder answers) {
        for (int story = 0; story < 12; story++) {
            for (int part = 0; part < 4; part++) {
                for (int what = 0; what < 8; what++) {
                    int s = story;
                    int p = part;
                    int w = what;
                    add(answers, () -> x.part(s, p, w));
                }
            }
        }
    }

    private static void accounts(NewspaperMakeup x, StringBuilder answers) {
        counts(x, answers);
        for (int page = 0; page < 4; page++) {
            int p = page;
            for (int kind = 0; kind <= 8; kind++) {
                int k = kind;
                add(answers, () -> x.cellCount(p, k));
            }
            add(answers, () -> x.fill(p));
            add(answers, () -> x.unevenness(p));
            add(answers, () -> x.report(p >> 1, p & 1));
        }
        add(answers, x::isSound);
    }

    private static void counts(NewspaperMakeup x, StringBuilder answers) {
        for (int what = 0; what < 8; what++) {
            int w = what;
            add(answers, () -> x.count(w));
        }
    }

    /** The stories and advertisements, and which numbers the next ones get. */
    private static void numbers(NewspaperMakeup x, StringBuilder answers) {
        counts(x, answers);
        for (int what = 0; what < 8; what++) {
            int w = what;
            for (int story = 0; story < 12; story++) {
                int s = story;
                add(answers, () -> x.story(s, w));
            }
            for (int advertisement = 0; advertisement < 8; advertisement++) {
                int a = advertisement;
                add(answers, () -> x.advertisement(a, w));
            }
        }
        add(answers, () -> x.addStory(0, 1, 1, 1, 0));
        add(answers, () -> x.addAdvertisement(3, 4, 23, 1, 1, 1));
        add(answers, x::undo);
        add(answers, x::undo);
    }

    private static void undo(NewspaperMakeup x, StringBuilder answers) {
        for (int change = 0; change < 9; change++) {
            add(answers, x::undo);
            counts(x, answers);
            for (int story = 0; story < 3; story++) {
                for (int what = 0; what < 8; what++) {
                    int s = story;
                    int w = what;
                    add(answers, () -> x.story(s, w));
                }
            }
        }
    }

    private static void shelf(NewspaperMakeup x, StringBuilder answers) {
        for (int row = 0; row < 3; row++) {
            for (int place = 0; place < 4; place++) {
                int r = row;
                int p = place;
                add(answers, () -> x.takeUp(r, p));
            }
        }
        numbers(x, answers);
    }
}
