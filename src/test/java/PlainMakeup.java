import java.util.ArrayDeque;
import java.util.ArrayList;
import java.util.Comparator;
import java.util.Deque;
import java.util.List;
import java.util.Map;
import java.util.NoSuchElementException;
import java.util.TreeMap;
import java.util.regex.Matcher;
import java.util.regex.Pattern;

/**
 * The document once more, written as plainly as can be and without a thought of speed, to be
 * compared with the program. It shares no code and no way of counting with it.
 */
final class PlainMakeup {
    record Story(int number, int page, int width, int headline, int lines, int priority,
            int photo, int caption, boolean late) {
        int head() {
            return headline + photo + caption;
        }

        Story with(int what, int value) {
            return new Story(number, what == 0 ? value : page, what == 1 ? value : width,
                    what == 2 ? value : headline, what == 3 ? value : lines,
                    what == 4 ? value : priority, what == 5 ? value : photo,
                    what == 6 ? value : caption, what == 7 ? value != 0 : late);
        }

        Story numbered(int other) {
            return new Story(other, page, width, headline, lines, priority, photo, caption, late);
        }
    }

    record Ad(int number, int page, int column, int row, int width, int height, int price) {
        boolean covers(int p, int c, int r) {
            return p == page && c >= column && c < column + width && r >= row && r < row + height;
        }
    }

    record State(Map<Integer, Story> stories, Map<Integer, Ad> ads, int storiesMade, int adsMade) {
        State copy() {
            return new State(new TreeMap<>(stories), new TreeMap<>(ads), storiesMade, adsMade);
        }

        State made(int stories, int ads) {
            return new State(this.stories, this.ads, storiesMade + stories, adsMade + ads);
        }
    }

    record Cell(int kind, int owner) { }

    private static final Cell NO_CELL = new Cell(0, -1);

    /** A part with the places of its lines, in the order of the lines. */
    record Part(int page, int column, int row, int width, int rows, List<Integer> places,
            int firstLine, boolean jumps) { }

    static final class Layout {
        final Cell[][][] cells = new Cell[4][5][24];
        final Map<Integer, List<Part>> parts = new TreeMap<>();
        final List<Story> order;

        Layout(State state) {
            for (Ad ad : state.ads.values()) {
                fill(ad.page, ad.column, ad.row, ad.width, ad.height, 1, 100 + ad.number);
            }
            order = new ArrayList<>(state.stories.values());
            order.sort(Comparator.comparing((Story s) -> !s.late).thenComparing(s -> -s.priority)
                    .thenComparing(s -> s.number));
            for (Story story : order) {
                parts.put(story.number, new ArrayList<>());
                place(story);
            }
        }

        Cell at(int page, int column, int row) {
            Cell cell = cells[page][column][row];
            return cell == null ? NO_CELL : cell;
        }

        void put(int page, int column, int row, int kind, int owner) {
            cells[page][column][row] = new Cell(kind, owner);
        }

        void fill(int page, int column, int row, int width, int height, int kind, int owner) {
            for (int c = column; c < column + width; c++) {
                for (int r = row; r < row + height; r++) {
                    put(page, c, r, kind, owner);
                }
            }
        }

        boolean isFree(int page, int column, int row, int width, int height) {
            if (column + width > 5 || row + height > 24) {
                return false;
            }
            for (int c = column; c < column + width; c++) {
                for (int r = row; r < row + height; r++) {
                    if (at(page, c, r).kind != 0) {
                        return false;
                    }
                }
            }
            return true;
        }

        int[] find(int page, int width, int height) {
            for (int row = 0; row < 24; row++) {
                for (int column = 0; column < 5; column++) {
                    if (isFree(page, column, row, width, height)) {
                        return new int[] {page, column, row};
                    }
                }
            }
            return null;
        }

        int[] findLater(int page) {
            for (int later = page + 1; later < 4; later++) {
                int[] found = find(later, 1, 3);
                if (found != null) {
                    return found;
                }
            }
            return null;
        }

        void place(Story s) {
            int[] start = null;
            for (int page = s.page; page < 4 && start == null; page++) {
                if (page == s.page || !s.late) {
                    start = find(page, s.width, s.head() + 2);
                }
            }
            if (start == null) {
                return;
            }
            int depth = 2;
            while (isFree(start[0], start[1], start[2], s.width, s.head() + depth + 1)) {
                depth++;
            }
            int[] next = null;
            int lines = s.lines;
            int rows = (int) Math.ceil((double) s.lines / s.width);
            if (s.lines > s.width * depth) {
                next = findLater(start[0]);
                rows = depth;
                lines = s.width * (next == null ? depth : depth - 1);
            }
            int r = start[2];
            fill(start[0], start[1], r, s.width, s.headline, 2, s.number);
            fill(start[0], start[1], r + s.headline, s.width, s.photo, 3, s.number);
            fill(start[0], start[1], r + s.headline + s.photo, s.width, s.caption, 4, s.number);
            body(s, start, s.width, s.head(), rows, lines, 0, next != null);
            goOn(s, next, lines);
        }

        void goOn(Story s, int[] from, int done) {
            if (from == null) {
                return;
            }
            int depth = 3;
            while (isFree(from[0], from[1], from[2], 1, depth + 1)) {
                depth++;
            }
            int[] next = null;
            int lines = s.lines - done;
            int rows = lines;
            if (lines > depth - 1) {
                next = findLater(from[0]);
                lines = next == null ? depth - 1 : depth - 2;
                rows = depth - 1;
            }
            put(from[0], from[1], from[2], 7, s.number);
            body(s, from, 1, 1, rows, lines, done, next != null);
            goOn(s, next, done + lines);
        }

        /** The rows below the head: lines dealt to columns, the rest white, perhaps a jump line. */
        void body(Story s, int[] from, int width, int head, int rows, int lines, int first,
                boolean jumps) {
            int top = from[2] + head;
            fill(from[0], from[1], top, width, rows, 8, s.number);
            if (jumps) {
                fill(from[0], from[1], top + rows - 1, width, 1, 6, s.number);
            }
            List<Integer> places = new ArrayList<>();
            for (int column = 0; column < width; column++) {
                int share = lines / width;
                if (column < lines % width) {
                    share++;
                }
                for (int line = 0; line < share; line++) {
                    put(from[0], from[1] + column, top + line, 5, s.number);
                    places.add(1000 * from[0] + 100 * (from[1] + column) + top + line);
                }
            }
            parts.get(s.number).add(new Part(from[0], from[1], from[2], width, head + rows,
                    places, first, jumps));
        }

        int lines(int story) {
            int sum = 0;
            for (Part part : parts.get(story)) {
                sum += part.places.size();
            }
            return sum;
        }

        int startPage(int story) {
            return parts.get(story).isEmpty() ? -1 : parts.get(story).get(0).page;
        }
    }

    private static final String NUMBER = "[0-9]{1,3}";
    private static final String COMMAND = "(?:s" + NUMBER + "(?:," + NUMBER + "){4}|a" + NUMBER
            + "(?:," + NUMBER + "){5}|p" + NUMBER + "(?:," + NUMBER + "){2}|l" + NUMBER + ","
            + NUMBER + ")";
    private static final Pattern TEXT = Pattern.compile(COMMAND + "(?:;" + COMMAND + ")*");

    private State state = new State(new TreeMap<>(), new TreeMap<>(), 0, 0);
    private final Deque<State> past = new ArrayDeque<>();
    private State saved;
    private final Map<String, Object> shelf = new TreeMap<>();
    private final StringBuilder buffer = new StringBuilder();
    private int[] report;
    private State laidOut;
    private Layout latest;

    /** The layout of the present state, made once for each state. */
    private Layout layout() {
        if (laidOut != state) {
            laidOut = state;
            latest = new Layout(state);
        }
        return latest;
    }

    private void become(State next) {
        past.addLast(state);
        if (past.size() > 8) {
            past.removeFirst();
        }
        state = next;
    }

    private Story need(int story) {
        if (!state.stories.containsKey(story)) {
            throw new IndexOutOfBoundsException();
        }
        return state.stories.get(story);
    }

    private Ad needAd(int ad) {
        if (!state.ads.containsKey(ad)) {
            throw new IndexOutOfBoundsException();
        }
        return state.ads.get(ad);
    }

    private static void needIndex(boolean holds) {
        if (!holds) {
            throw new IndexOutOfBoundsException();
        }
    }

    private static void needArgument(boolean holds) {
        if (!holds) {
            throw new IllegalArgumentException();
        }
    }

    private static boolean in(long value, long least, long greatest) {
        return value >= least && value <= greatest;
    }

    private static State withAd(State s, Ad ad) {
        needIndex(in(ad.page, 0, 3) && in(ad.column, 0, 4) && in(ad.row, 0, 23) && ad.width >= 1
                && ad.height >= 1 && (long) ad.column + ad.width <= 5
                && (long) ad.row + ad.height <= 24);
        needArgument(in(ad.price, 1, 999));
        boolean taken = s.adsMade == 8;
        for (Ad other : s.ads.values()) {
            for (int c = ad.column; c < ad.column + ad.width; c++) {
                for (int r = ad.row; r < ad.row + ad.height; r++) {
                    taken |= other.covers(ad.page, c, r);
                }
            }
        }
        if (taken) {
            throw new IllegalStateException();
        }
        State next = s.copy().made(0, 1);
        next.ads.put(ad.number, ad);
        return next;
    }

    private static State withStory(State s, Story story) {
        needIndex(in(story.page, 0, 3));
        needArgument(in(story.width, 1, 3) && in(story.headline, 1, 3) && in(story.lines, 1, 150)
                && in(story.priority, 0, 9));
        if (s.storiesMade == 12) {
            throw new IllegalStateException();
        }
        State next = s.copy().made(1, 0);
        next.stories.put(story.number, story);
        return next;
    }

    private static State withPhoto(State s, int story, int height, int caption) {
        needIndex(s.stories.containsKey(story));
        needArgument(height == 0 && caption == 0 || in(height, 2, 8) && in(caption, 0, 2));
        return with(with(s, story, 5, height), story, 6, caption);
    }

    private static State with(State s, int story, int what, int value) {
        needIndex(s.stories.containsKey(story));
        State next = s.copy();
        next.stories.put(story, s.stories.get(story).with(what, value));
        return next;
    }

    int addAdvertisement(int page, int column, int row, int width, int height, int price) {
        become(withAd(state, new Ad(state.adsMade, page, column, row, width, height, price)));
        return state.adsMade - 1;
    }

    int addStory(int page, int width, int headline, int lines, int priority) {
        become(withStory(state, new Story(state.storiesMade, page, width, headline, lines,
                priority, 0, 0, false)));
        return state.storiesMade - 1;
    }

    int setPhoto(int story, int height, int caption) {
        State next = withPhoto(state, story, height, caption);
        int previous = need(story).photo;
        become(next);
        return previous;
    }

    boolean setLate(int story, boolean isLate) {
        boolean previous = need(story).late;
        become(with(state, story, 7, isLate ? 1 : 0));
        return previous;
    }

    int change(int story, int what, int value) {
        Story s = need(story);
        needArgument(in(what, 0, 4));
        int[] least = {0, 1, 1, 1, 0};
        int[] greatest = {3, 3, 3, 150, 9};
        needArgument(in(value, least[what], greatest[what]));
        int previous = new int[] {s.page, s.width, s.headline, s.lines, s.priority}[what];
        become(with(state, story, what, value));
        return previous;
    }

    int remove(boolean isStory, int number) {
        if (isStory) {
            need(number);
        } else {
            needAd(number);
        }
        State next = state.copy();
        if (isStory) {
            next.stories.remove(number);
        } else {
            next.ads.remove(number);
        }
        become(next);
        return isStory ? next.stories.size() : next.ads.size();
    }

    int story(int story, int what) {
        Story s = need(story);
        needArgument(in(what, 0, 12));
        Layout layout = layout();
        int rank = 0;
        while (layout.order.get(rank).number != story) {
            rank++;
        }
        return new int[] {s.page, s.width, s.headline, s.lines, s.priority, s.photo, s.caption,
            s.late ? 1 : 0, rank, layout.startPage(story), layout.parts.get(story).size(),
            layout.lines(story), s.lines - layout.lines(story)}[what];
    }

    int advertisement(int ad, int what) {
        Ad a = needAd(ad);
        needArgument(in(what, 0, 6));
        return new int[] {a.page, a.column, a.row, a.width, a.height, a.price,
            a.width * a.height * a.price}[what];
    }

    int cell(int page, int column, int row) {
        needIndex(in(page, 0, 3) && in(column, 0, 4) && in(row, 0, 23));
        return layout().at(page, column, row).kind;
    }

    int owner(int page, int column, int row) {
        if (cell(page, column, row) == 0) {
            throw new NoSuchElementException();
        }
        return layout().at(page, column, row).owner;
    }

    int part(int story, int part, int what) {
        need(story);
        List<Part> parts = layout().parts.get(story);
        needIndex(part >= 0 && part < parts.size());
        needArgument(in(what, 0, 7));
        Part p = parts.get(part);
        return new int[] {p.page, p.column, p.row, p.width, p.rows, p.places.size(), p.firstLine,
            p.jumps ? 1 : 0}[what];
    }

    int locate(int story, int line) {
        needIndex(line >= 0 && line < need(story).lines);
        List<Integer> places = new ArrayList<>();
        for (Part part : layout().parts.get(story)) {
            places.addAll(part.places);
        }
        if (line >= places.size()) {
            throw new NoSuchElementException();
        }
        return places.get(line);
    }

    int ranked(int rank) {
        needIndex(rank >= 0 && rank < state.stories.size());
        return layout().order.get(rank).number;
    }

    int fate(int story) {
        if (story(story, 9) == -1) {
            return 3;
        }
        return story(story, 9) != story(story, 0) ? 2 : story(story, 12) > 0 ? 1 : 0;
    }

    int blamed(int story) {
        Story s = need(story);
        Layout layout = layout();
        Integer found = null;
        for (Story other : layout.order) {
            if (layout.startPage(story) == s.page || other.number == story) {
                break;
            }
            State without = state.copy();
            without.stories.remove(other.number);
            if (new Layout(without).startPage(story) == s.page) {
                found = other.number;
            }
        }
        if (found == null) {
            throw new NoSuchElementException();
        }
        return found;
    }

    int linesIf(int story, boolean isLate) {
        need(story);
        return new Layout(with(state, story, 7, isLate ? 1 : 0)).lines(story);
    }

    int trim(int story) {
        Story s = need(story);
        if (layout().startPage(story) < 0) {
            throw new NoSuchElementException();
        }
        int trim = 0;
        while (!standsWhole(new Layout(with(state, story, 3, s.lines - trim)), s, s.lines - trim)) {
            trim++;
        }
        return trim;
    }

    private static boolean standsWhole(Layout layout, Story s, int lines) {
        return layout.parts.get(s.number).size() == 1 && layout.lines(s.number) == lines;
    }

    int count(int what) {
        needArgument(in(what, 0, 7));
        int[] counts = new int[8];
        counts[0] = state.stories.size();
        counts[1] = state.ads.size();
        Layout layout = layout();
        for (Story s : state.stories.values()) {
            int fate = fate(s.number);
            counts[2] += fate == 3 ? 1 : 0;
            counts[3] += fate == 2 ? 1 : 0;
            counts[4] += Math.max(0, layout.parts.get(s.number).size() - 1);
            counts[5] += layout.lines(s.number);
            counts[6] += s.lines - layout.lines(s.number);
        }
        for (Ad a : state.ads.values()) {
            counts[7] += a.width * a.height * a.price;
        }
        return counts[what];
    }

    private int cells(int page, int column, String kinds) {
        Layout layout = layout();
        int cells = 0;
        for (int c = 0; c < 5; c++) {
            for (int r = 0; r < 24; r++) {
                boolean counted = kinds.indexOf((char) ('0' + layout.at(page, c, r).kind)) >= 0;
                cells += counted && (column < 0 || column == c) ? 1 : 0;
            }
        }
        return cells;
    }

    int cellCount(int page, int kind) {
        needIndex(in(page, 0, 3));
        needArgument(in(kind, 0, 8));
        return cells(page, -1, String.valueOf(kind));
    }

    float fill(int page) {
        needIndex(in(page, 0, 3));
        return (float) cells(page, -1, "1234567") / 120f;
    }

    double unevenness(int page) {
        needIndex(in(page, 0, 3));
        float[] fills = new float[5];
        float mean = 0f;
        for (int column = 0; column < 5; column++) {
            fills[column] = (float) cells(page, column, "1234567") / 24f;
            mean = mean + fills[column];
        }
        mean = mean / 5f;
        float squares = 0f;
        for (float fill : fills) {
            squares = squares + (fill - mean) * (fill - mean);
        }
        return (double) squares / 5.0;
    }

    boolean isSound() {
        return true;
    }

    int layDown(int row, int place, boolean isStory, int number) {
        needIndex(in(row, 0, 2) && in(place, 0, 3));
        Object copy = isStory ? need(number) : needAd(number);
        if (row == 0 && !isStory || row == 1 && isStory) {
            throw new UnsupportedOperationException();
        }
        shelf.put(row + " " + place, copy);
        int filled = 0;
        for (String key : shelf.keySet()) {
            filled += key.startsWith(row + " ") ? 1 : 0;
        }
        return filled;
    }

    int takeUp(int row, int place) {
        needIndex(in(row, 0, 2) && in(place, 0, 3));
        Object copy = shelf.get(row + " " + place);
        if (copy == null) {
            throw new NoSuchElementException();
        }
        if (copy instanceof Story s) {
            become(withStory(state, s.numbered(state.storiesMade)));
            return state.storiesMade - 1;
        }
        Ad a = (Ad) copy;
        return addAdvertisement(a.page, a.column, a.row, a.width, a.height, a.price);
    }

    int feed(char letter) {
        if (buffer.length() == 80) {
            throw new IllegalStateException();
        }
        return buffer.append(letter).length();
    }

    int perform() {
        String text = buffer.toString();
        buffer.setLength(0);
        if (!TEXT.matcher(text).matches()) {
            return -100 - errorPosition(text);
        }
        String[] commands = text.split(";");
        State next = state;
        for (int command = 0; command < commands.length; command++) {
            try {
                next = carriedOut(next, commands[command]);
            } catch (RuntimeException e) {
                report = new int[] {command, e instanceof IndexOutOfBoundsException ? 1
                        : e instanceof IllegalArgumentException ? 2 : 3};
                throw new UnsupportedOperationException();
            }
        }
        become(next);
        return commands.length;
    }

    /** The first character up to which no text can begin so; a matcher tells by hitEnd. */
    private static int errorPosition(String text) {
        for (int length = 1; length <= text.length(); length++) {
            Matcher m = TEXT.matcher(text.substring(0, length));
            if (!m.matches() && !m.hitEnd()) {
                return length - 1;
            }
        }
        return text.length();
    }

    private static State carriedOut(State s, String command) {
        String[] texts = command.substring(1).split(",");
        int[] n = new int[texts.length];
        for (int at = 0; at < n.length; at++) {
            n[at] = Integer.parseInt(texts[at]);
        }
        switch (command.charAt(0)) {
            case 's':
                return withStory(s,
                        new Story(s.storiesMade, n[0], n[1], n[2], n[3], n[4], 0, 0, false));
            case 'a':
                return withAd(s, new Ad(s.adsMade, n[0], n[1], n[2], n[3], n[4], n[5]));
            case 'p':
                return withPhoto(s, n[0], n[1], n[2]);
            default:
                return with(s, n[0], 7, n[1]);
        }
    }

    int report(int level, int what) {
        if (report == null || !in(level, 0, 1)) {
            throw new NoSuchElementException();
        }
        needArgument(in(what, 0, 1));
        return what == 1 ? report[level] : level + 1;
    }

    int undo() {
        if (past.isEmpty()) {
            throw new IllegalStateException();
        }
        state = past.removeLast();
        return past.size();
    }

    int save() {
        saved = state;
        return state.stories.size();
    }

    int restore() {
        if (saved == null) {
            throw new IllegalStateException();
        }
        state = saved;
        past.clear();
        return state.stories.size();
    }
}
