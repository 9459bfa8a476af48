import java.util.NoSuchElementException;

/**
 * A makeup of a newspaper. What is on the pages is never changed by hand: after every change of the
 * stories and advertisements it is laid out anew, so that it always follows from them.
 */
public final class NewspaperMakeup {
    private static final int PAGES = 4;
    private static final int COLUMNS = 5;
    private static final int ROWS = 24;
    private static final int PAGE_CELLS = COLUMNS * ROWS;
    private static final int STORIES = 12;
    private static final int ADVERTISEMENTS = 8;
    private static final int ADVERTISEMENT_OWNER = 100;
    private static final int NONE = -1;

    // The numbers of a story; the first five are those that can be changed.
    private static final int PAGE = 0;
    private static final int WIDTH = 1;
    private static final int HEADLINE = 2;
    private static final int LINES = 3;
    private static final int PRIORITY = 4;
    private static final int PHOTO = 5;
    private static final int CAPTION = 6;
    private static final int LATE = 7;
    private static final int STORY_NUMBERS = 8;
    private static final int CHANGEABLE = 5;
    private static final int[] LEAST = {0, 1, 1, 1, 0};
    private static final int[] GREATEST = {3, 3, 3, 150, 9};
    private static final int LEAST_PHOTO = 2;
    private static final int GREATEST_PHOTO = 8;
    private static final int GREATEST_CAPTION = 2;

    // The numbers of an advertisement.
    private static final int AD_PAGE = 0;
    private static final int AD_COLUMN = 1;
    private static final int AD_ROW = 2;
    private static final int AD_WIDTH = 3;
    private static final int AD_HEIGHT = 4;
    private static final int AD_PRICE = 5;
    private static final int AD_NUMBERS = 6;
    private static final int GREATEST_PRICE = 999;

    // The numbers of a part; those up to PART_JUMPS can be asked for.
    private static final int PART_PAGE = 0;
    private static final int PART_COLUMN = 1;
    private static final int PART_ROW = 2;
    private static final int PART_WIDTH = 3;
    private static final int PART_ROWS = 4;
    private static final int PART_LINES = 5;
    private static final int PART_FIRST_LINE = 6;
    private static final int PART_JUMPS = 7;
    private static final int PART_HEAD = 8;
    private static final int PART_NUMBERS = 9;

    /** A story has at most one part on each page. */
    private static final int PARTS = PAGES;

    private static final int ROWS_BELOW_HEAD = 2;
    private static final int ROWS_TO_GO_ON = 3;
    private static final int JUMP_HEAD_ROWS = 1;

    private static final int FREE = 0;
    private static final int KIND_ADVERTISEMENT = 1;
    private static final int KIND_HEADLINE = 2;
    private static final int KIND_PHOTO = 3;
    private static final int KIND_CAPTION = 4;
    private static final int KIND_LINE = 5;
    private static final int KIND_JUMP_LINE = 6;
    private static final int KIND_JUMP_HEAD = 7;
    private static final int WHITE = 8;

    // Why a command cannot be carried out; these are the details of a report, too.
    private static final int NO_FAULT = 0;
    private static final int INDEX_FAULT = 1;
    private static final int ARGUMENT_FAULT = 2;
    private static final int STATE_FAULT = 3;

    private static final int CHANGES = 8;
    private static final int SHELF_ROWS = 3;
    private static final int SHELF_PLACES = 4;
    private static final int LETTERS = 80;
    private static final int DIGITS = 3;
    private static final int SYNTAX_ERROR = -100;

    private final Edition edition;
    private final Pages pages;
    private final Edition trial;
    private final Pages trialPages;
    private final History history;
    private final Edition saved;
    private final Shelf shelf;
    private final CommandText commands;
    private boolean isSaved;
    private boolean isReported;
    private int reportedCommand;
    private int reportedFault;

    public NewspaperMakeup() {
        pages = new Pages();
        edition = pages.edition;
        trialPages = new Pages();
        trial = trialPages.edition;
        history = new History();
        saved = new Edition();
        shelf = new Shelf();
        commands = new CommandText();
    }

    // ---- advertisements and stories

    public int addAdvertisement(int page, int column, int row, int width, int height, int price)
            throws IndexOutOfBoundsException, IllegalArgumentException, IllegalStateException {
        refuse(edition.faultOfAdvertisement(page, column, row, width, height, price));
        history.remember(edition);
        int added = edition.putAdvertisement(page, column, row, width, height, price);
        pages.layOut();
        return added;
    }

    public int addStory(int page, int width, int headline, int lines, int priority)
            throws IndexOutOfBoundsException, IllegalArgumentException, IllegalStateException {
        refuse(edition.faultOfStory(page, width, headline, lines, priority));
        history.remember(edition);
        int added = edition.putStory(page, width, headline, lines, priority);
        pages.layOut();
        return added;
    }

    public int setPhoto(int story, int height, int caption)
            throws IndexOutOfBoundsException, IllegalArgumentException {
        refuse(edition.faultOfPhoto(story, height, caption));
        history.remember(edition);
        int previous = edition.storyNumber(story, PHOTO);
        edition.putPhoto(story, height, caption);
        pages.layOut();
        return previous;
    }

    public boolean setLate(int story, boolean isLate) throws IndexOutOfBoundsException {
        needStory(story);
        history.remember(edition);
        boolean wasLate = edition.isLate(story);
        edition.putLate(story, isLate);
        pages.layOut();
        return wasLate;
    }

    public int change(int story, int what, int value)
            throws IndexOutOfBoundsException, IllegalArgumentException {
        needStory(story);
        if (!isInRange(what, value)) {
            throw new IllegalArgumentException();
        }
        history.remember(edition);
        int previous = edition.storyNumber(story, what);
        edition.putStoryNumber(story, what, value);
        pages.layOut();
        return previous;
    }

    public int remove(boolean isStory, int number) throws IndexOutOfBoundsException {
        needEntry(isStory, number);
        history.remember(edition);
        if (isStory) {
            edition.dropStory(number);
        } else {
            edition.dropAdvertisement(number);
        }
        pages.layOut();
        return isStory ? edition.storyCount() : edition.advertisementCount();
    }

    public int story(int story, int what)
            throws IndexOutOfBoundsException, IllegalArgumentException {
        needStory(story);
        if (what >= 0 && what < STORY_NUMBERS) {
            return edition.storyNumber(story, what);
        }
        switch (what) {
            case 8:
                return pages.rankOf(story);
            case 9:
                return pages.startPageOf(story);
            case 10:
                return pages.partCountOf(story);
            case 11:
                return pages.linesOnPages(story);
            case 12:
                return pages.linesCut(story);
            default:
                throw new IllegalArgumentException();
        }
    }

    public int advertisement(int advertisement, int what)
            throws IndexOutOfBoundsException, IllegalArgumentException {
        needAdvertisement(advertisement);
        if (what >= 0 && what < AD_NUMBERS) {
            return edition.advertisementNumber(advertisement, what);
        }
        if (what != AD_NUMBERS) {
            throw new IllegalArgumentException();
        }
        return edition.priceOfCells(advertisement);
    }

    // ---- what is on the pages

    public int cell(int page, int column, int row) throws IndexOutOfBoundsException {
        needCell(page, column, row);
        return pages.kindAt(cellIndex(page, column, row));
    }

    public int owner(int page, int column, int row)
            throws IndexOutOfBoundsException, NoSuchElementException {
        needCell(page, column, row);
        int index = cellIndex(page, column, row);
        if (pages.kindAt(index) == FREE) {
            throw new NoSuchElementException();
        }
        return pages.ownerAt(index);
    }

    public int part(int story, int part, int what)
            throws IndexOutOfBoundsException, IllegalArgumentException {
        needStory(story);
        if (part < 0 || part >= pages.partCountOf(story)) {
            throw new IndexOutOfBoundsException();
        }
        if (what < 0 || what > PART_JUMPS) {
            throw new IllegalArgumentException();
        }
        return pages.partNumber(story, part, what);
    }

    public int locate(int story, int line)
            throws IndexOutOfBoundsException, NoSuchElementException {
        needStory(story);
        if (line < 0 || line >= edition.storyNumber(story, LINES)) {
            throw new IndexOutOfBoundsException();
        }
        int index = pages.cellOfLine(story, line);
        if (index == NONE) {
            throw new NoSuchElementException();
        }
        return 1000 * pageOf(index) + 100 * columnOf(index) + rowOf(index);
    }

    public int ranked(int rank) throws IndexOutOfBoundsException {
        if (rank < 0 || rank >= edition.storyCount()) {
            throw new IndexOutOfBoundsException();
        }
        return pages.storyOfRank(rank);
    }

    public int fate(int story) throws IndexOutOfBoundsException {
        needStory(story);
        if (pages.isLeftOut(story)) {
            return 3;
        }
        if (pages.isBumped(story)) {
            return 2;
        }
        return pages.linesCut(story) > 0 ? 1 : 0;
    }

    public int blamed(int story) throws IndexOutOfBoundsException, NoSuchElementException {
        needStory(story);
        if (pages.startsOnOwnPage(story)) {
            throw new NoSuchElementException();
        }
        for (int rank = pages.rankOf(story) - 1; rank >= 0; rank--) {
            int suspect = pages.storyOfRank(rank);
            trial.copyFrom(edition);
            trial.dropStory(suspect);
            trialPages.layOut();
            if (trialPages.startsOnOwnPage(story)) {
                return suspect;
            }
        }
        throw new NoSuchElementException();
    }

    public int linesIf(int story, boolean isLate) throws IndexOutOfBoundsException {
        needStory(story);
        trial.copyFrom(edition);
        trial.putLate(story, isLate);
        trialPages.layOut();
        return trialPages.linesOnPages(story);
    }

    public int trim(int story) throws IndexOutOfBoundsException, NoSuchElementException {
        needStory(story);
        if (pages.isLeftOut(story)) {
            throw new NoSuchElementException();
        }
        return Math.max(0, edition.storyNumber(story, LINES) - pages.linesAtStart(story));
    }

    // ---- accounts

    public int count(int what) throws IllegalArgumentException {
        switch (what) {
            case 0:
                return edition.storyCount();
            case 1:
                return edition.advertisementCount();
            case 2:
                return pages.leftOutCount();
            case 3:
                return pages.bumpedCount();
            case 4:
                return pages.jumpCount();
            case 5:
                return pages.allLinesOnPages();
            case 6:
                return pages.allLinesCut();
            case 7:
                return edition.allPrices();
            default:
                throw new IllegalArgumentException();
        }
    }

    public int cellCount(int page, int kind)
            throws IndexOutOfBoundsException, IllegalArgumentException {
        needPage(page);
        if (kind < FREE || kind > WHITE) {
            throw new IllegalArgumentException();
        }
        return pages.cellsOfKind(page, kind);
    }

    public float fill(int page) throws IndexOutOfBoundsException {
        needPage(page);
        int used = 0;
        for (int column = 0; column < COLUMNS; column++) {
            used += pages.usedCells(page, column);
        }
        return (float) used / (float) PAGE_CELLS;
    }

    public double unevenness(int page) throws IndexOutOfBoundsException {
        needPage(page);
        float sum = 0f;
        for (int column = 0; column < COLUMNS; column++) {
            sum += columnFill(page, column);
        }
        float mean = sum / (float) COLUMNS;
        float squares = 0f;
        for (int column = 0; column < COLUMNS; column++) {
            float difference = columnFill(page, column) - mean;
            squares += difference * difference;
        }
        return (double) squares / (double) COLUMNS;
    }

    private float columnFill(int page, int column) {
        return (float) pages.usedCells(page, column) / (float) ROWS;
    }

    public boolean isSound() {
        if (pages.cellsOfParts() + edition.cellsOfAdvertisements() != pages.cellsNotFree()) {
            return false;
        }
        for (int story = 0; story < STORIES; story++) {
            if (edition.hasStory(story) && !pages.hasSoundLines(story)) {
                return false;
            }
        }
        return true;
    }

    // ---- shelf

    public int layDown(int row, int place, boolean isStory, int number)
            throws IndexOutOfBoundsException, UnsupportedOperationException {
        needShelfPlace(row, place);
        needEntry(isStory, number);
        if (!shelf.takes(row, isStory)) {
            throw new UnsupportedOperationException();
        }
        int spot = row * SHELF_PLACES + place;
        if (isStory) {
            shelf.keepStory(spot, edition, number);
        } else {
            shelf.keepAdvertisement(spot, edition, number);
        }
        return shelf.filledPlaces(row);
    }

    public int takeUp(int row, int place)
            throws IndexOutOfBoundsException, NoSuchElementException, IllegalStateException {
        needShelfPlace(row, place);
        int spot = row * SHELF_PLACES + place;
        if (shelf.isEmptyAt(spot)) {
            throw new NoSuchElementException();
        }
        trial.copyFrom(edition);
        int added = shelf.isStoryAt(spot)
                ? shelf.giveStory(spot, trial) : shelf.giveAdvertisement(spot, trial);
        if (added == NONE) {
            throw new IllegalStateException();
        }
        history.remember(edition);
        edition.copyFrom(trial);
        pages.layOut();
        return added;
    }

    // ---- commands, undo and snapshots

    public int feed(char letter) throws IllegalStateException {
        if (commands.isFull()) {
            throw new IllegalStateException();
        }
        return commands.append(letter);
    }

    public int perform() throws UnsupportedOperationException {
        int error = commands.parseAndEmpty();
        if (error != NONE) {
            return SYNTAX_ERROR - error;
        }
        // The commands work on a trial, so that none has an effect if one of them fails.
        trial.copyFrom(edition);
        for (int command = 0; command < commands.commandCount(); command++) {
            int fault = carryOut(command);
            if (fault != NO_FAULT) {
                isReported = true;
                reportedCommand = command;
                reportedFault = fault;
                throw new UnsupportedOperationException();
            }
        }
        history.remember(edition);
        edition.copyFrom(trial);
        pages.layOut();
        return commands.commandCount();
    }

    /** Carries a command out on the trial; returns its fault, without an effect if there is one. */
    private int carryOut(int command) {
        switch (commands.letterOf(command)) {
            case 's':
                return carryOutStory(command);
            case 'a':
                return carryOutAdvertisement(command);
            case 'p':
                return carryOutPhoto(command);
            default:
                return carryOutLate(command);
        }
    }

    private int carryOutStory(int command) {
        int page = commands.numberOf(command, 0);
        int width = commands.numberOf(command, 1);
        int headline = commands.numberOf(command, 2);
        int lines = commands.numberOf(command, 3);
        int priority = commands.numberOf(command, 4);
        int fault = trial.faultOfStory(page, width, headline, lines, priority);
        if (fault == NO_FAULT) {
            trial.putStory(page, width, headline, lines, priority);
        }
        return fault;
    }

    private int carryOutAdvertisement(int command) {
        int page = commands.numberOf(command, 0);
        int column = commands.numberOf(command, 1);
        int row = commands.numberOf(command, 2);
        int width = commands.numberOf(command, 3);
        int height = commands.numberOf(command, 4);
        int price = commands.numberOf(command, 5);
        int fault = trial.faultOfAdvertisement(page, column, row, width, height, price);
        if (fault == NO_FAULT) {
            trial.putAdvertisement(page, column, row, width, height, price);
        }
        return fault;
    }

    private int carryOutPhoto(int command) {
        int story = commands.numberOf(command, 0);
        int height = commands.numberOf(command, 1);
        int caption = commands.numberOf(command, 2);
        int fault = trial.faultOfPhoto(story, height, caption);
        if (fault == NO_FAULT) {
            trial.putPhoto(story, height, caption);
        }
        return fault;
    }

    private int carryOutLate(int command) {
        int story = commands.numberOf(command, 0);
        if (!trial.hasStory(story)) {
            return INDEX_FAULT;
        }
        trial.putLate(story, commands.numberOf(command, 1) != 0);
        return NO_FAULT;
    }

    public int report(int level, int what)
            throws NoSuchElementException, IllegalArgumentException {
        if (!isReported || level < 0 || level > 1) {
            throw new NoSuchElementException();
        }
        if (what < 0 || what > 1) {
            throw new IllegalArgumentException();
        }
        if (what == 0) {
            return level + 1;
        }
        return level == 0 ? reportedCommand : reportedFault;
    }

    public int undo() throws IllegalStateException {
        if (history.isEmpty()) {
            throw new IllegalStateException();
        }
        int remaining = history.takeBack(edition);
        pages.layOut();
        return remaining;
    }

    public int save() {
        saved.copyFrom(edition);
        isSaved = true;
        return edition.storyCount();
    }

    public int restore() throws IllegalStateException {
        if (!isSaved) {
            throw new IllegalStateException();
        }
        edition.copyFrom(saved);
        history.forget();
        pages.layOut();
        return edition.storyCount();
    }

    // ---- what the methods above need

    private static void refuse(int fault) {
        switch (fault) {
            case INDEX_FAULT:
                throw new IndexOutOfBoundsException();
            case ARGUMENT_FAULT:
                throw new IllegalArgumentException();
            case STATE_FAULT:
                throw new IllegalStateException();
            default:
                break;
        }
    }

    private void needStory(int story) {
        if (!edition.hasStory(story)) {
            throw new IndexOutOfBoundsException();
        }
    }

    private void needAdvertisement(int advertisement) {
        if (!edition.hasAdvertisement(advertisement)) {
            throw new IndexOutOfBoundsException();
        }
    }

    private void needEntry(boolean isStory, int number) {
        if (isStory) {
            needStory(number);
        } else {
            needAdvertisement(number);
        }
    }

    private static void needPage(int page) {
        if (!isPage(page)) {
            throw new IndexOutOfBoundsException();
        }
    }

    private static void needCell(int page, int column, int row) {
        if (!isPage(page) || column < 0 || column >= COLUMNS || row < 0 || row >= ROWS) {
            throw new IndexOutOfBoundsException();
        }
    }

    private static void needShelfPlace(int row, int place) {
        if (row < 0 || row >= SHELF_ROWS || place < 0 || place >= SHELF_PLACES) {
            throw new IndexOutOfBoundsException();
        }
    }

    private static boolean isPage(int page) {
        return page >= 0 && page < PAGES;
    }

    /** Whether a number of a story can be changed, and may have this value. */
    private static boolean isInRange(int what, int value) {
        return what >= 0 && what < CHANGEABLE && value >= LEAST[what] && value <= GREATEST[what];
    }

    private static boolean isStoryIndex(int story) {
        return story >= 0 && story < STORIES;
    }

    private static boolean isAdvertisementIndex(int advertisement) {
        return advertisement >= 0 && advertisement < ADVERTISEMENTS;
    }

    private static boolean isCellIndex(int index) {
        return index >= 0 && index < PAGES * PAGE_CELLS;
    }

    // A cell of all pages has one index: page by page, in a page row by row.

    private static int cellIndex(int page, int column, int row) {
        return page * PAGE_CELLS + row * COLUMNS + column;
    }

    private static int pageOf(int index) {
        return index / PAGE_CELLS;
    }

    private static int rowOf(int index) {
        return index % PAGE_CELLS / COLUMNS;
    }

    private static int columnOf(int index) {
        return index % COLUMNS;
    }

    /** The stories and advertisements, with how many there have been. */
    private static final class Edition {
        private final boolean[] storyIsThere = new boolean[STORIES];
        private final int[] storyNumbers = new int[STORIES * STORY_NUMBERS];
        private final boolean[] advertisementIsThere = new boolean[ADVERTISEMENTS];
        private final int[] advertisementNumbers = new int[ADVERTISEMENTS * AD_NUMBERS];
        private int storiesMade;
        private int advertisementsMade;

        void copyFrom(Edition other) {
            for (int story = 0; story < STORIES; story++) {
                storyIsThere[story] = other.storyIsThere[story];
            }
            for (int at = 0; at < STORIES * STORY_NUMBERS; at++) {
                storyNumbers[at] = other.storyNumbers[at];
            }
            for (int advertisement = 0; advertisement < ADVERTISEMENTS; advertisement++) {
                advertisementIsThere[advertisement] = other.advertisementIsThere[advertisement];
            }
            for (int at = 0; at < ADVERTISEMENTS * AD_NUMBERS; at++) {
                advertisementNumbers[at] = other.advertisementNumbers[at];
            }
            storiesMade = other.storiesMade;
            advertisementsMade = other.advertisementsMade;
        }

        boolean hasStory(int story) {
            return isStoryIndex(story) && storyIsThere[story];
        }

        boolean hasAdvertisement(int advertisement) {
            return isAdvertisementIndex(advertisement) && advertisementIsThere[advertisement];
        }

        int storyNumber(int story, int what) {
            if (story < 0 || story >= STORIES || what < 0 || what >= STORY_NUMBERS) {
                return 0;
            }
            return storyNumbers[story * STORY_NUMBERS + what];
        }

        int advertisementNumber(int advertisement, int what) {
            if (!isAdvertisementIndex(advertisement) || what < 0 || what >= AD_NUMBERS) {
                return 0;
            }
            return advertisementNumbers[advertisement * AD_NUMBERS + what];
        }

        boolean isLate(int story) {
            return storyNumber(story, LATE) != 0;
        }

        int headRows(int story) {
            return storyNumber(story, HEADLINE) + storyNumber(story, PHOTO)
                    + storyNumber(story, CAPTION);
        }

        int storyCount() {
            int stories = 0;
            for (int story = 0; story < STORIES; story++) {
                if (storyIsThere[story]) {
                    stories++;
                }
            }
            return stories;
        }

        int advertisementCount() {
            int advertisements = 0;
            for (int advertisement = 0; advertisement < ADVERTISEMENTS; advertisement++) {
                if (advertisementIsThere[advertisement]) {
                    advertisements++;
                }
            }
            return advertisements;
        }

        int cellsOf(int advertisement) {
            return advertisementNumber(advertisement, AD_WIDTH)
                    * advertisementNumber(advertisement, AD_HEIGHT);
        }

        int priceOfCells(int advertisement) {
            return cellsOf(advertisement) * advertisementNumber(advertisement, AD_PRICE);
        }

        int cellsOfAdvertisements() {
            int cells = 0;
            for (int advertisement = 0; advertisement < ADVERTISEMENTS; advertisement++) {
                if (advertisementIsThere[advertisement]) {
                    cells += cellsOf(advertisement);
                }
            }
            return cells;
        }

        int allPrices() {
            int prices = 0;
            for (int advertisement = 0; advertisement < ADVERTISEMENTS; advertisement++) {
                if (advertisementIsThere[advertisement]) {
                    prices += priceOfCells(advertisement);
                }
            }
            return prices;
        }

        int faultOfStory(int page, int width, int headline, int lines, int priority) {
            if (!isPage(page)) {
                return INDEX_FAULT;
            }
            if (!isInRange(WIDTH, width) || !isInRange(HEADLINE, headline)
                    || !isInRange(LINES, lines) || !isInRange(PRIORITY, priority)) {
                return ARGUMENT_FAULT;
            }
            return storiesMade >= STORIES ? STATE_FAULT : NO_FAULT;
        }

        int faultOfAdvertisement(int page, int column, int row, int width, int height, int price) {
            // The sums column + width and row + height could wrap round, the differences can't.
            if (!isPage(page) || column < 0 || column >= COLUMNS || row < 0 || row >= ROWS
                    || width < 1 || width > COLUMNS - column
                    || height < 1 || height > ROWS - row) {
                return INDEX_FAULT;
            }
            if (price < 1 || price > GREATEST_PRICE) {
                return ARGUMENT_FAULT;
            }
            if (advertisementsMade >= ADVERTISEMENTS
                    || isTaken(page, column, row, width, height)) {
                return STATE_FAULT;
            }
            return NO_FAULT;
        }

        private boolean isTaken(int page, int column, int row, int width, int height) {
            for (int other = 0; other < ADVERTISEMENTS; other++) {
                if (advertisementIsThere[other]
                        && advertisementNumber(other, AD_PAGE) == page
                        && overlap(column, width, advertisementNumber(other, AD_COLUMN),
                                advertisementNumber(other, AD_WIDTH))
                        && overlap(row, height, advertisementNumber(other, AD_ROW),
                                advertisementNumber(other, AD_HEIGHT))) {
                    return true;
                }
            }
            return false;
        }

        private static boolean overlap(int first, int size, int otherFirst, int otherSize) {
            return first < otherFirst + otherSize && otherFirst < first + size;
        }

        int faultOfPhoto(int story, int height, int caption) {
            if (!hasStory(story)) {
                return INDEX_FAULT;
            }
            if (height == 0) {
                return caption == 0 ? NO_FAULT : ARGUMENT_FAULT;
            }
            if (height < LEAST_PHOTO || height > GREATEST_PHOTO
                    || caption < 0 || caption > GREATEST_CAPTION) {
                return ARGUMENT_FAULT;
            }
            return NO_FAULT;
        }

        /** Adds a story that has no fault; returns its number, NONE if there is no room for it. */
        int putStory(int page, int width, int headline, int lines, int priority) {
            int story = storiesMade;
            if (!isStoryIndex(story)) {
                return NONE;
            }
            storiesMade = story + 1;
            storyIsThere[story] = true;
            putStoryNumber(story, PAGE, page);
            putStoryNumber(story, WIDTH, width);
            putStoryNumber(story, HEADLINE, headline);
            putStoryNumber(story, LINES, lines);
            putStoryNumber(story, PRIORITY, priority);
            putPhoto(story, 0, 0);
            putLate(story, false);
            return story;
        }

        /** Adds an advertisement that has no fault; returns its number, NONE if there is no room. */
        int putAdvertisement(int page, int column, int row, int width, int height, int price) {
            int advertisement = advertisementsMade;
            if (!isAdvertisementIndex(advertisement)) {
                return NONE;
            }
            advertisementsMade = advertisement + 1;
            advertisementIsThere[advertisement] = true;
            int at = advertisement * AD_NUMBERS;
            advertisementNumbers[at + AD_PAGE] = page;
            advertisementNumbers[at + AD_COLUMN] = column;
            advertisementNumbers[at + AD_ROW] = row;
            advertisementNumbers[at + AD_WIDTH] = width;
            advertisementNumbers[at + AD_HEIGHT] = height;
            advertisementNumbers[at + AD_PRICE] = price;
            return advertisement;
        }

        void putStoryNumber(int story, int what, int value) {
            if (isStoryIndex(story) && what >= 0 && what < STORY_NUMBERS) {
                storyNumbers[story * STORY_NUMBERS + what] = value;
            }
        }

        void putPhoto(int story, int height, int caption) {
            putStoryNumber(story, PHOTO, height);
            putStoryNumber(story, CAPTION, caption);
        }

        void putLate(int story, boolean isLate) {
            putStoryNumber(story, LATE, isLate ? 1 : 0);
        }

        void dropStory(int story) {
            if (isStoryIndex(story)) {
                storyIsThere[story] = false;
            }
        }

        void dropAdvertisement(int advertisement) {
            if (isAdvertisementIndex(advertisement)) {
                advertisementIsThere[advertisement] = false;
            }
        }
    }

    /** An edition, and what is on its pages as of the latest call of layOut. */
    private static final class Pages {
        private final Edition edition = new Edition();
        private final int[] kinds = new int[PAGES * PAGE_CELLS];
        private final int[] owners = new int[PAGES * PAGE_CELLS];
        private final int[] storiesByRank = new int[STORIES];
        private final int[] ranks = new int[STORIES];
        private final int[] partCounts = new int[STORIES];
        private final int[] partNumbers = new int[STORIES * PARTS * PART_NUMBERS];
        private final int[] placedLines = new int[STORIES];
        private final int[] startDepths = new int[STORIES];

        void layOut() {
            clear();
            paintAdvertisements();
            rankStories();
            int stories = edition.storyCount();
            for (int rank = 0; rank < stories; rank++) {
                placeStory(storyOfRank(rank));
            }
        }

        private void clear() {
            for (int index = 0; index < PAGES * PAGE_CELLS; index++) {
                kinds[index] = FREE;
                owners[index] = NONE;
            }
            for (int story = 0; story < STORIES; story++) {
                partCounts[story] = 0;
                placedLines[story] = 0;
                startDepths[story] = 0;
            }
        }

        private void paintAdvertisements() {
            for (int advertisement = 0; advertisement < ADVERTISEMENTS; advertisement++) {
                if (edition.hasAdvertisement(advertisement)) {
                    int index = cellIndex(edition.advertisementNumber(advertisement, AD_PAGE),
                            edition.advertisementNumber(advertisement, AD_COLUMN),
                            edition.advertisementNumber(advertisement, AD_ROW));
                    paintBlock(index, edition.advertisementNumber(advertisement, AD_WIDTH),
                            edition.advertisementNumber(advertisement, AD_HEIGHT),
                            KIND_ADVERTISEMENT, ADVERTISEMENT_OWNER + advertisement);
                }
            }
        }

        private void rankStories() {
            for (int story = 0; story < STORIES; story++) {
                int rank = countBefore(story);
                if (edition.hasStory(story) && isStoryIndex(rank)) {
                    ranks[story] = rank;
                    storiesByRank[rank] = story;
                }
            }
        }

        private int countBefore(int story) {
            int before = 0;
            for (int other = 0; other < STORIES; other++) {
                if (edition.hasStory(other) && comesBefore(other, story)) {
                    before++;
                }
            }
            return before;
        }

        private boolean comesBefore(int story, int other) {
            if (edition.isLate(story) != edition.isLate(other)) {
                return edition.isLate(story);
            }
            int priority = edition.storyNumber(story, PRIORITY);
            int otherPriority = edition.storyNumber(other, PRIORITY);
            return priority != otherPriority ? priority > otherPriority : story < other;
        }

        private void placeStory(int story) {
            int index = findStart(story);
            for (int part = 0; part < PARTS && index != NONE; part++) {
                int next = findGoOn(index);
                index = part == 0
                        ? placeStart(story, index, next) : placeContinuation(story, index, next);
                paintPart(story, part);
            }
        }

        private int findStart(int story) {
            int own = edition.storyNumber(story, PAGE);
            int last = edition.isLate(story) ? own : PAGES - 1;
            int rows = edition.headRows(story) + ROWS_BELOW_HEAD;
            return findBlock(own, last, edition.storyNumber(story, WIDTH), rows);
        }

        /** Where a story that comes from this cell's page can go on, or NONE. */
        private int findGoOn(int index) {
            return findBlock(pageOf(index) + 1, PAGES - 1, 1, ROWS_TO_GO_ON);
        }

        /** The upper left cell of the block of free cells that is to be taken, or NONE. */
        private int findBlock(int firstPage, int lastPage, int width, int rows) {
            for (int page = firstPage; page <= lastPage; page++) {
                for (int row = 0; row <= ROWS - rows; row++) {
                    for (int column = 0; column <= COLUMNS - width; column++) {
                        int index = cellIndex(page, column, row);
                        if (freeRows(index, width) >= rows) {
                            return index;
                        }
                    }
                }
            }
            return NONE;
        }

        /** How many rows from a cell on downwards are free in this many columns. */
        private int freeRows(int index, int width) {
            int rows = 0;
            for (int row = rowOf(index); row < ROWS; row++) {
                int left = index + rows * COLUMNS;
                for (int column = 0; column < width; column++) {
                    if (!isCellIndex(left + column) || kinds[left + column] != FREE) {
                        return rows;
                    }
                }
                rows++;
            }
            return rows;
        }

        /**
         * Makes the first part of a story, which can go on at the cell next, or nowhere if that is
         * NONE; returns next if it does go on, otherwise NONE.
         */
        private int placeStart(int story, int index, int next) {
            int width = edition.storyNumber(story, WIDTH);
            int head = edition.headRows(story);
            int lines = edition.storyNumber(story, LINES);
            int depth = freeRows(index, width) - head;
            putStartDepth(story, depth);
            if (lines <= width * depth) {
                addPart(story, index, width, head + linesOfColumn(lines, width, 0), lines, false);
                return NONE;
            }
            boolean jumps = next != NONE;
            int lineRows = jumps ? depth - 1 : depth;
            addPart(story, index, width, head + depth, width * lineRows, jumps);
            return next;
        }

        /** Makes a later part of a story; next and the answer are as for placeStart. */
        private int placeContinuation(int story, int index, int next) {
            int depth = freeRows(index, 1);
            int remaining = linesCut(story);
            if (remaining <= depth - 1) {
                addPart(story, index, 1, JUMP_HEAD_ROWS + remaining, remaining, false);
                return NONE;
            }
            boolean jumps = next != NONE;
            addPart(story, index, 1, depth, jumps ? depth - 2 : depth - 1, jumps);
            return next;
        }

        private void putStartDepth(int story, int depth) {
            if (isStoryIndex(story)) {
                startDepths[story] = depth;
            }
        }

        private void addPart(int story, int index, int width, int rows, int lines, boolean jumps) {
            int part = partCountOf(story);
            if (!isStoryIndex(story) || part < 0 || part >= PARTS) {
                return;
            }
            int at = (story * PARTS + part) * PART_NUMBERS;
            partNumbers[at + PART_PAGE] = pageOf(index);
            partNumbers[at + PART_COLUMN] = columnOf(index);
            partNumbers[at + PART_ROW] = rowOf(index);
            partNumbers[at + PART_WIDTH] = width;
            partNumbers[at + PART_ROWS] = rows;
            partNumbers[at + PART_LINES] = lines;
            partNumbers[at + PART_FIRST_LINE] = placedLines[story];
            partNumbers[at + PART_JUMPS] = jumps ? 1 : 0;
            partNumbers[at + PART_HEAD] = part == 0 ? edition.headRows(story) : JUMP_HEAD_ROWS;
            placedLines[story] += lines;
            partCounts[story] = part + 1;
        }

        private void paintPart(int story, int part) {
            int width = partNumber(story, part, PART_WIDTH);
            int lines = partNumber(story, part, PART_LINES);
            int jumpRows = partNumber(story, part, PART_JUMPS);
            paintPartHead(story, part);
            int index = firstLineCell(story, part);
            int lineRows = partNumber(story, part, PART_ROWS)
                    - partNumber(story, part, PART_HEAD) - jumpRows;
            paintBlock(index, width, lineRows, WHITE, story);
            for (int column = 0; column < width; column++) {
                paintBlock(index + column, 1, linesOfColumn(lines, width, column), KIND_LINE, story);
            }
            paintBlock(index + lineRows * COLUMNS, width, jumpRows, KIND_JUMP_LINE, story);
        }

        private void paintPartHead(int story, int part) {
            int index = firstCell(story, part);
            int width = partNumber(story, part, PART_WIDTH);
            if (part > 0) {
                paintBlock(index, width, JUMP_HEAD_ROWS, KIND_JUMP_HEAD, story);
                return;
            }
            int headline = edition.storyNumber(story, HEADLINE);
            int photo = edition.storyNumber(story, PHOTO);
            int caption = edition.storyNumber(story, CAPTION);
            paintBlock(index, width, headline, KIND_HEADLINE, story);
            paintBlock(index + headline * COLUMNS, width, photo, KIND_PHOTO, story);
            paintBlock(index + (headline + photo) * COLUMNS, width, caption, KIND_CAPTION, story);
        }

        private void paintBlock(int index, int width, int rows, int kind, int owner) {
            for (int row = 0; row < rows; row++) {
                for (int column = 0; column < width; column++) {
                    int at = index + row * COLUMNS + column;
                    if (isCellIndex(at)) {
                        kinds[at] = kind;
                        owners[at] = owner;
                    }
                }
            }
        }

        /** The lines of a column if so many lines are divided among so many columns. */
        private static int linesOfColumn(int lines, int width, int column) {
            return width < 1 ? 0 : (lines + width - 1 - column) / width;
        }

        private int firstCell(int story, int part) {
            return cellIndex(partNumber(story, part, PART_PAGE),
                    partNumber(story, part, PART_COLUMN), partNumber(story, part, PART_ROW));
        }

        private int firstLineCell(int story, int part) {
            return firstCell(story, part) + partNumber(story, part, PART_HEAD) * COLUMNS;
        }

        /** The cell in which a line is, NONE if it is on no page. */
        int cellOfLine(int story, int line) {
            for (int part = 0; part < partCountOf(story); part++) {
                int offset = line - partNumber(story, part, PART_FIRST_LINE);
                int lines = partNumber(story, part, PART_LINES);
                if (offset >= 0 && offset < lines) {
                    return cellInPart(story, part, offset);
                }
            }
            return NONE;
        }

        private int cellInPart(int story, int part, int offset) {
            int width = partNumber(story, part, PART_WIDTH);
            int lines = partNumber(story, part, PART_LINES);
            int row = offset;
            for (int column = 0; column < width; column++) {
                int rows = linesOfColumn(lines, width, column);
                if (row < rows) {
                    return firstLineCell(story, part) + row * COLUMNS + column;
                }
                row -= rows;
            }
            return NONE;
        }

        int kindAt(int index) {
            return isCellIndex(index) ? kinds[index] : FREE;
        }

        int ownerAt(int index) {
            return isCellIndex(index) ? owners[index] : NONE;
        }

        int partNumber(int story, int part, int what) {
            if (story < 0 || story >= STORIES || part < 0 || part >= PARTS
                    || what < 0 || what >= PART_NUMBERS) {
                return 0;
            }
            return partNumbers[(story * PARTS + part) * PART_NUMBERS + what];
        }

        int rankOf(int story) {
            return isStoryIndex(story) ? ranks[story] : NONE;
        }

        int storyOfRank(int rank) {
            return isStoryIndex(rank) ? storiesByRank[rank] : NONE;
        }

        int partCountOf(int story) {
            return isStoryIndex(story) ? partCounts[story] : 0;
        }

        boolean isLeftOut(int story) {
            return partCountOf(story) == 0;
        }

        int startPageOf(int story) {
            return partCountOf(story) == 0 ? NONE : partNumber(story, 0, PART_PAGE);
        }

        boolean startsOnOwnPage(int story) {
            return startPageOf(story) == edition.storyNumber(story, PAGE);
        }

        boolean isBumped(int story) {
            return !isLeftOut(story) && !startsOnOwnPage(story);
        }

        int linesOnPages(int story) {
            return isStoryIndex(story) ? placedLines[story] : 0;
        }

        int linesCut(int story) {
            return edition.storyNumber(story, LINES) - linesOnPages(story);
        }

        /** How many lines would have their place at the start, with no jump and none cut. */
        int linesAtStart(int story) {
            int depth = isStoryIndex(story) ? startDepths[story] : 0;
            return edition.storyNumber(story, WIDTH) * depth;
        }

        int leftOutCount() {
            int leftOut = 0;
            for (int story = 0; story < STORIES; story++) {
                if (edition.hasStory(story) && isLeftOut(story)) {
                    leftOut++;
                }
            }
            return leftOut;
        }

        int bumpedCount() {
            int bumped = 0;
            for (int story = 0; story < STORIES; story++) {
                if (edition.hasStory(story) && isBumped(story)) {
                    bumped++;
                }
            }
            return bumped;
        }

        int jumpCount() {
            int jumps = 0;
            for (int story = 0; story < STORIES; story++) {
                for (int part = 0; part < partCountOf(story); part++) {
                    jumps += partNumber(story, part, PART_JUMPS);
                }
            }
            return jumps;
        }

        int allLinesOnPages() {
            int lines = 0;
            for (int story = 0; story < STORIES; story++) {
                if (edition.hasStory(story)) {
                    lines += linesOnPages(story);
                }
            }
            return lines;
        }

        int allLinesCut() {
            int lines = 0;
            for (int story = 0; story < STORIES; story++) {
                if (edition.hasStory(story)) {
                    lines += linesCut(story);
                }
            }
            return lines;
        }

        int cellsOfKind(int page, int kind) {
            int cells = 0;
            for (int index = page * PAGE_CELLS; index < (page + 1) * PAGE_CELLS; index++) {
                if (kindAt(index) == kind) {
                    cells++;
                }
            }
            return cells;
        }

        /** The cells of a column that are neither free nor white. */
        int usedCells(int page, int column) {
            int cells = 0;
            for (int row = 0; row < ROWS; row++) {
                int kind = kindAt(cellIndex(page, column, row));
                if (kind != FREE && kind != WHITE) {
                    cells++;
                }
            }
            return cells;
        }

        int cellsNotFree() {
            int cells = 0;
            for (int page = 0; page < PAGES; page++) {
                cells += PAGE_CELLS - cellsOfKind(page, FREE);
            }
            return cells;
        }

        int cellsOfParts() {
            int cells = 0;
            for (int story = 0; story < STORIES; story++) {
                for (int part = 0; part < partCountOf(story); part++) {
                    cells += partNumber(story, part, PART_WIDTH) * partNumber(story, part, PART_ROWS);
                }
            }
            return cells;
        }

        /** Whether the lines of all parts of a story are those that are not cut. */
        boolean hasSoundLines(int story) {
            int lines = 0;
            for (int part = 0; part < partCountOf(story); part++) {
                lines += partNumber(story, part, PART_LINES);
            }
            return lines == edition.storyNumber(story, LINES) - linesCut(story);
        }
    }

    /** The editions before the latest changes, in a ring. */
    private static final class History {
        private final Edition[] editions = new Edition[CHANGES];
        private int next;
        private int changes;

        History() {
            for (int at = 0; at < CHANGES; at++) {
                editions[at] = new Edition();
            }
        }

        void remember(Edition present) {
            Edition free = editionAt(next);
            if (free != null) {
                free.copyFrom(present);
            }
            next = (next + 1) % CHANGES;
            changes = Math.min(changes + 1, CHANGES);
        }

        boolean isEmpty() {
            return changes == 0;
        }

        /** Puts the edition before the latest change in place; returns how many changes are left. */
        int takeBack(Edition present) {
            next = (next + CHANGES - 1) % CHANGES;
            changes--;
            Edition earlier = editionAt(next);
            if (earlier != null) {
                present.copyFrom(earlier);
            }
            return changes;
        }

        private Edition editionAt(int at) {
            return at >= 0 && at < CHANGES ? editions[at] : null;
        }

        void forget() {
            changes = 0;
        }
    }

    /** Copies of stories and advertisements; a spot is a place of a row, counted through all rows. */
    private static final class Shelf {
        private static final int EMPTY = 0;
        private static final int HOLDS_STORY = 1;
        private static final int HOLDS_ADVERTISEMENT = 2;
        private static final int ROW_FOR_STORIES = 0;
        private static final int ROW_FOR_ADVERTISEMENTS = 1;

        private final int[] holds = new int[SHELF_ROWS * SHELF_PLACES];
        private final int[] numbers = new int[SHELF_ROWS * SHELF_PLACES * STORY_NUMBERS];

        boolean takes(int row, boolean isStory) {
            return row != (isStory ? ROW_FOR_ADVERTISEMENTS : ROW_FOR_STORIES);
        }

        boolean isEmptyAt(int spot) {
            return heldAt(spot) == EMPTY;
        }

        boolean isStoryAt(int spot) {
            return heldAt(spot) == HOLDS_STORY;
        }

        private int heldAt(int spot) {
            return isSpot(spot) ? holds[spot] : EMPTY;
        }

        private static boolean isSpot(int spot) {
            return spot >= 0 && spot < SHELF_ROWS * SHELF_PLACES;
        }

        int filledPlaces(int row) {
            int filled = 0;
            for (int place = 0; place < SHELF_PLACES; place++) {
                if (!isEmptyAt(row * SHELF_PLACES + place)) {
                    filled++;
                }
            }
            return filled;
        }

        void keepStory(int spot, Edition edition, int story) {
            if (!isSpot(spot)) {
                return;
            }
            holds[spot] = HOLDS_STORY;
            for (int what = 0; what < STORY_NUMBERS; what++) {
                numbers[spot * STORY_NUMBERS + what] = edition.storyNumber(story, what);
            }
        }

        void keepAdvertisement(int spot, Edition edition, int advertisement) {
            if (!isSpot(spot)) {
                return;
            }
            holds[spot] = HOLDS_ADVERTISEMENT;
            for (int what = 0; what < AD_NUMBERS; what++) {
                numbers[spot * STORY_NUMBERS + what] =
                        edition.advertisementNumber(advertisement, what);
            }
        }

        private int kept(int spot, int what) {
            if (!isSpot(spot) || what < 0 || what >= STORY_NUMBERS) {
                return 0;
            }
            return numbers[spot * STORY_NUMBERS + what];
        }

        /** Adds the story at a spot to an edition; returns its number, NONE if that has no room. */
        int giveStory(int spot, Edition edition) {
            int story = edition.putStory(kept(spot, PAGE), kept(spot, WIDTH), kept(spot, HEADLINE),
                    kept(spot, LINES), kept(spot, PRIORITY));
            if (story != NONE) {
                edition.putPhoto(story, kept(spot, PHOTO), kept(spot, CAPTION));
                edition.putLate(story, kept(spot, LATE) != 0);
            }
            return story;
        }

        /** Adds the advertisement at a spot to an edition; returns its number, NONE if it can't. */
        int giveAdvertisement(int spot, Edition edition) {
            int page = kept(spot, AD_PAGE);
            int column = kept(spot, AD_COLUMN);
            int row = kept(spot, AD_ROW);
            int width = kept(spot, AD_WIDTH);
            int height = kept(spot, AD_HEIGHT);
            int price = kept(spot, AD_PRICE);
            if (edition.faultOfAdvertisement(page, column, row, width, height, price) != NO_FAULT) {
                return NONE;
            }
            return edition.putAdvertisement(page, column, row, width, height, price);
        }
    }

    /** The input buffer, and the commands that were last parsed from it. */
    private static final class CommandText {
        private final char[] letters = new char[LETTERS];
        private int length;
        private final char[] commandLetters = new char[LETTERS];
        private final int[] firstNumbers = new int[LETTERS];
        private int commandCount;
        private final int[] numbers = new int[LETTERS];
        private int numberCount;
        private boolean wantsCommand;
        private int missingNumbers;
        private int digits;

        boolean isFull() {
            return length >= LETTERS;
        }

        /** Appends a letter to a buffer that is not full; returns how many letters it holds then. */
        int append(char letter) {
            if (length >= 0 && length < LETTERS) {
                letters[length] = letter;
                length++;
            }
            return length;
        }

        /** Returns the error position, or NONE if the text is correct. */
        int parseAndEmpty() {
            int end = length;
            length = 0;
            commandCount = 0;
            numberCount = 0;
            wantsCommand = true;
            for (int position = 0; position < end && position < LETTERS; position++) {
                if (!accepts(letters[position])) {
                    return position;
                }
            }
            return isComplete() ? NONE : end;
        }

        /** Goes on by a letter, if it can continue a text that begins with the letters before it. */
        private boolean accepts(char letter) {
            if (wantsCommand) {
                return startCommand(letter);
            }
            if (letter >= '0' && letter <= '9') {
                return addDigit(letter - '0');
            }
            if (letter == ',' && digits > 0 && missingNumbers > 0) {
                startNumber();
                return true;
            }
            if (letter == ';' && isComplete()) {
                wantsCommand = true;
                return true;
            }
            return false;
        }

        private boolean isComplete() {
            return !wantsCommand && digits > 0 && missingNumbers == 0;
        }

        private boolean startCommand(char letter) {
            int size = sizeOf(letter);
            if (size == 0 || commandCount < 0 || commandCount >= LETTERS) {
                return false;
            }
            commandLetters[commandCount] = letter;
            firstNumbers[commandCount] = numberCount;
            commandCount++;
            wantsCommand = false;
            missingNumbers = size;
            startNumber();
            return true;
        }

        /** How many numbers a command has, 0 if there is no such command. */
        private static int sizeOf(char letter) {
            switch (letter) {
                case 's':
                    return 5;
                case 'a':
                    return 6;
                case 'p':
                    return 3;
                case 'l':
                    return 2;
                default:
                    return 0;
            }
        }

        private void startNumber() {
            if (numberCount >= 0 && numberCount < LETTERS) {
                numbers[numberCount] = 0;
                numberCount++;
            }
            missingNumbers--;
            digits = 0;
        }

        private boolean addDigit(int digit) {
            if (digits >= DIGITS) {
                return false;
            }
            int at = numberCount - 1;
            if (at < 0 || at >= LETTERS) {
                return false;
            }
            numbers[at] = numbers[at] * 10 + digit;
            digits++;
            return true;
        }

        int commandCount() {
            return commandCount;
        }

        private static boolean isCommand(int command) {
            return command >= 0 && command < LETTERS;
        }

        char letterOf(int command) {
            return isCommand(command) ? commandLetters[command] : ' ';
        }

        int numberOf(int command, int which) {
            int at = isCommand(command) ? firstNumbers[command] + which : NONE;
            return at >= 0 && at < LETTERS ? numbers[at] : 0;
        }
    }
}
