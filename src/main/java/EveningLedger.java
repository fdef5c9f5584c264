import java.util.NoSuchElementException;

/** A ledger of debts that can be asked about every evening it keeps; DOC.md is its document. */
public final class EveningLedger {
    private static final int PAGES = 8;
    private static final int PLACES = 6;
    private static final int DAY_PLACES = PAGES * PLACES;
    private static final int PEOPLE = 10;
    private static final char FIRST_PERSON = 'a';
    private static final char NOBODY = 0;
    private static final int DEBT_LIMIT = 999;
    private static final int EVENINGS = 12;
    private static final int DAYS = EVENINGS + 1;
    private static final int NOW = -1;
    private static final int NONE = -1;
    private static final int CHANGES = 6;
    private static final int INPUT_LIMIT = 60;
    private static final int NUMBER_DIGITS = 3;
    private static final int FIRST_SIGN = 32;
    private static final int LAST_SIGN = 126;

    private static final int TOO_MANY_EVENINGS = 1;
    private static final int PLACE_IS_TAKEN = 2;
    private static final int PLACE_IS_EMPTY = 3;
    private static final int DEBT_IS_BEYOND = 4;
    private static final int EVENING_IS_LATEST = 5;
    private static final int SHEET_IS_SAME = 6;
    private static final int PAGE_IS_FULL = 7;

    private static final int WRITES = 1;
    private static final int ADDS = 2;
    private static final int STRIKES = 3;
    private static final int LETS_COME = 4;
    private static final int TAKES_OVER = 5;
    private static final int FORGETS = 6;

    private static final int ALL_DONE = 0;
    private static final int TELLS_WHAT_IS_NOT = 1;
    private static final int IS_REFUSED = 2;

    private final Book book = new Book();
    private final Book draft = new Book();
    private final Book saved = new Book();
    private final History history = new History();
    private final Refusal refusal = new Refusal();
    private final Totals totals = new Totals();
    private final Text text = new Text();
    private final StringBuilder line = new StringBuilder();
    private boolean isSaved = false;
    private int keptErrorPosition = NONE;

    public EveningLedger() {
    }

    // ---- entries

    public int write(int page, int place, char person, int debt)
            throws IndexOutOfBoundsException, IllegalArgumentException, UnsupportedOperationException {
        needPlace(page, place);
        needEntry(person, debt);
        refuseIf(refusal.stopsWriting(book, page, place));
        history.rememberBook(book);
        book.writeEntry(page, place, person, debt);
        return book.entriesOn(book.kept, page);
    }

    public int add(int page, char person, int debt)
            throws IndexOutOfBoundsException, IllegalArgumentException, UnsupportedOperationException {
        needIndex(isPage(page));
        needEntry(person, debt);
        refuseIf(refusal.stopsAdding(book, page));
        history.rememberBook(book);
        int place = book.firstEmptyPlace(page);
        book.writeEntry(page, place, person, debt);
        return place;
    }

    public int owe(int page, int place, int more)
            throws IndexOutOfBoundsException, IllegalArgumentException, UnsupportedOperationException {
        needPlace(page, place);
        needArgument(isInDebtRange(more));
        refuseIf(refusal.stopsOwing(book, page, place, more));
        history.rememberBook(book);
        return book.oweMore(page, place, more);
    }

    public int strike(int page, int place) throws IndexOutOfBoundsException, UnsupportedOperationException {
        needPlace(page, place);
        refuseIf(refusal.stopsAtEmpty(book, page, place));
        history.rememberBook(book);
        return book.strikeOut(page, place);
    }

    public int swap(int page, int place, int other) throws IndexOutOfBoundsException, UnsupportedOperationException {
        needPlace(page, place);
        needPlace(page, other);
        refuseIf(refusal.stopsAtEmpty(book, page, place) || refusal.stopsAtEmpty(book, page, other));
        history.rememberBook(book);
        book.swapEntries(page, place, other);
        return book.entriesOn(book.kept, page);
    }

    public char personAt(int evening, int page, int place)
            throws IndexOutOfBoundsException, IllegalArgumentException, NoSuchElementException {
        int day = needDay(evening);
        needArgument(isPage(page) && isPlace(place));
        needElement(book.debtOn(day, page, place) != 0);
        return book.personOn(day, page, place);
    }

    public int debtAt(int evening, int page, int place) throws IndexOutOfBoundsException, IllegalArgumentException {
        int day = needDay(evening);
        needArgument(isPage(page) && isPlace(place));
        return book.debtOn(day, page, place);
    }

    public int pageOf(int evening, int page, int what) throws IndexOutOfBoundsException, IllegalArgumentException {
        int day = needDay(evening);
        needArgument(isPage(page));
        switch (what) {
            case 0:
                return book.entriesOn(day, page);
            case 1:
                return book.sumOn(day, page);
            case 2:
                return book.sheetOn(day, page);
            case 3:
                return book.daysWithSheet(book.sheetOn(day, page), page, book.kept);
            case 4:
                return book.peopleOn(day, page);
            default:
                throw new IllegalArgumentException();
        }
    }

    // ---- evenings

    public int evening() throws UnsupportedOperationException {
        refuseIf(refusal.stopsEvening(book));
        history.rememberBook(book);
        book.keepEvening();
        return book.latest;
    }

    public int takeOver(int page, int evening) throws IndexOutOfBoundsException, UnsupportedOperationException {
        needIndex(isPage(page));
        int day = needDay(evening);
        refuseIf(refusal.stopsTakingOver(book, page, day));
        history.rememberBook(book);
        book.takePageFrom(day, page);
        return book.sheetOn(day, page);
    }

    public int forget(int evening) throws IndexOutOfBoundsException, UnsupportedOperationException {
        int day = needDay(evening);
        needIndex(evening != NOW);
        refuseIf(refusal.stopsForgetting(book, day));
        history.rememberBook(book);
        int gone = book.pagesAlone(day);
        book.forgetDay(day);
        return gone;
    }

    public int keptAt(int place) throws NoSuchElementException {
        needElement(place >= 0 && place < book.kept);
        return book.numbers[place];
    }

    public int sheetsApart(int evening, int other) throws IndexOutOfBoundsException {
        int day = needDay(evening);
        int otherDay = needDay(other);
        return book.differentSheets(day, otherDay);
    }

    public int placesApart(int evening, int other) throws IndexOutOfBoundsException {
        int day = needDay(evening);
        int otherDay = needDay(other);
        int apart = 0;
        for (int page = 0; page < PAGES; page++) {
            apart += book.differentPlaces(day, otherDay, page);
        }
        return apart;
    }

    public boolean isLike(int evening, int other, int page) throws IndexOutOfBoundsException, IllegalArgumentException {
        int day = needDay(evening);
        int otherDay = needDay(other);
        needArgument(isPage(page));
        return book.differentPlaces(day, otherDay, page) == 0;
    }

    // ---- debts

    public int debt(int evening, char person) throws IndexOutOfBoundsException, IllegalArgumentException {
        int day = needDay(evening);
        needArgument(isPerson(person));
        return book.debtOf(person, day);
    }

    public int debtAgain(int evening, char person) throws IndexOutOfBoundsException, IllegalArgumentException {
        int day = needDay(evening);
        needArgument(isPerson(person));
        return book.debtByDifferences(person, day);
    }

    public int greatestOn(char person) throws IllegalArgumentException {
        needArgument(isPerson(person));
        return book.eveningOfGreatestDebt(person);
    }

    public int without(char person) throws IllegalArgumentException, NoSuchElementException {
        needArgument(isPerson(person));
        int evening = book.latestEveningWithout(person);
        needElement(evening != NONE);
        return evening;
    }

    public char owing(int evening, int place) throws IndexOutOfBoundsException, NoSuchElementException {
        int day = needDay(evening);
        totals.sumUp(book, day);
        char person = totals.personByRank(place);
        needElement(person != NOBODY);
        return person;
    }

    public int greatest(int evening, int place) throws IndexOutOfBoundsException, NoSuchElementException {
        int day = needDay(evening);
        int spot = book.spotByRank(day, place);
        needElement(spot != NONE);
        return pageAndPlace(spot);
    }

    public int find(int evening, char person)
            throws IndexOutOfBoundsException, IllegalArgumentException, NoSuchElementException {
        int day = needDay(evening);
        needArgument(isPerson(person));
        int spot = book.firstSpotOf(person, day);
        needElement(spot != NONE);
        return pageAndPlace(spot);
    }

    // ---- lines, means, accounts, texts, history and saving

    public int tell(int evening, int page) throws IndexOutOfBoundsException, IllegalArgumentException {
        int day = needDay(evening);
        needArgument(isPage(page));
        line.setLength(0);
        for (int place = 0; place < PLACES; place++) {
            if (place > 0) {
                line.append(' ');
            }
            putPlace(day, page, place);
        }
        return line.length();
    }

    public int show(int evening) throws IndexOutOfBoundsException {
        int day = needDay(evening);
        line.setLength(0);
        for (int page = 0; page < PAGES; page++) {
            if (page > 0) {
                line.append(',');
            }
            putSheet(day, page);
        }
        return line.length();
    }

    public char character(int index) throws NoSuchElementException {
        needElement(index >= 0 && index < line.length());
        return line.charAt(index);
    }

    public double meanDebt(int evening) throws IndexOutOfBoundsException, ArithmeticException {
        int day = needDay(evening);
        int entries = book.allEntries(day);
        if (entries == 0) {
            throw new ArithmeticException();
        }
        return (double) book.sumOfAll(day) / (double) entries;
    }

    public float aloneShare() {
        int alone = 0;
        int pages = 0;
        for (int day = 0; day <= book.kept; day++) {
            alone += book.pagesAlone(day);
            pages += PAGES;
        }
        return pages == 0 ? 0 : (float) alone / (float) pages;
    }

    public int account(int account) throws IllegalArgumentException {
        switch (account) {
            case 0:
                return book.latest;
            case 1:
                return book.kept;
            case 2:
                return book.sheetsLeft();
            case 3:
                return book.sheetsMade;
            case 4:
                return book.sheetsMade - PAGES;
            case 5:
                return book.allEntries(book.kept);
            case 6:
                return book.sumOfAll(book.kept);
            case 7:
                return book.written;
            case 8:
                return book.struck;
            case 9:
                return book.takenOver;
            case 10:
                return text.signs.length();
            case 11:
                return history.size;
            default:
                throw new IllegalArgumentException();
        }
    }

    public int append(char character) throws IllegalArgumentException, IllegalStateException {
        needArgument(character >= FIRST_SIGN && character <= LAST_SIGN);
        if (text.signs.length() >= INPUT_LIMIT) {
            throw new IllegalStateException();
        }
        text.signs.append(character);
        return text.signs.length();
    }

    public int read() throws IllegalArgumentException, IllegalStateException, UnsupportedOperationException {
        int commands = text.countCommands();
        if (commands == 0) {
            keptErrorPosition = text.at;
            text.empty();
            throw new IllegalArgumentException();
        }
        draft.copyFrom(book);
        int outcome = carryOut(commands);
        text.empty();
        if (outcome == TELLS_WHAT_IS_NOT) {
            throw new IllegalStateException();
        }
        refuseIf(outcome == IS_REFUSED);
        history.rememberBook(book);
        book.copyFrom(draft);
        return commands;
    }

    public int errorPosition() throws NoSuchElementException {
        needElement(keptErrorPosition != NONE);
        return keptErrorPosition;
    }

    public int reason(boolean isDetail) throws NoSuchElementException {
        needElement(refusal.number != 0);
        return isDetail ? refusal.detail : refusal.number;
    }

    public int undo() throws NoSuchElementException {
        needElement(history.size > 0);
        history.giveBack(book);
        return history.size;
    }

    public int save() {
        saved.copyFrom(book);
        isSaved = true;
        return book.kept;
    }

    public int restore() throws IllegalStateException {
        if (!isSaved) {
            throw new IllegalStateException();
        }
        book.copyFrom(saved);
        history.size = 0;
        return book.kept;
    }

    private static boolean isPage(int page) {
        return page >= 0 && page < PAGES;
    }

    private static boolean isPlace(int place) {
        return place >= 0 && place < PLACES;
    }

    private static boolean isPerson(char person) {
        return person >= FIRST_PERSON && person < FIRST_PERSON + PEOPLE;
    }

    private static boolean isInDebtRange(int debt) {
        return debt >= -DEBT_LIMIT && debt <= DEBT_LIMIT;
    }

    private static boolean isEntry(char person, int debt) {
        return isPerson(person) && isInDebtRange(debt) && debt != 0;
    }

    private static int pageAndPlace(int spot) {
        return 10 * (spot / PLACES) + spot % PLACES;
    }

    private static void needIndex(boolean isRight) {
        if (!isRight) {
            throw new IndexOutOfBoundsException();
        }
    }

    private static void needArgument(boolean isRight) {
        if (!isRight) {
            throw new IllegalArgumentException();
        }
    }

    private static void needElement(boolean isThere) {
        if (!isThere) {
            throw new NoSuchElementException();
        }
    }

    private static void refuseIf(boolean isRefused) {
        if (isRefused) {
            throw new UnsupportedOperationException();
        }
    }

    private static void needPlace(int page, int place) {
        needIndex(isPage(page) && isPlace(place));
    }

    private static void needEntry(char person, int debt) {
        needArgument(isEntry(person, debt));
    }

    private int needDay(int evening) {
        int day = book.dayOf(evening);
        needIndex(day != NONE);
        return day;
    }

    private void putPlace(int day, int page, int place) {
        int debt = book.debtOn(day, page, place);
        if (debt == 0) {
            line.append('.');
        } else {
            line.append(book.personOn(day, page, place));
            line.append(debt);
        }
    }

    private void putSheet(int day, int page) {
        int sheet = book.sheetOn(day, page);
        line.append(sheet);
        if (book.daysWithSheet(sheet, page, day) == 0) {
            line.append('!');
        }
    }

    /** Works on the draft, so that a command that fails leaves the book as it is. */
    private int carryOut(int commands) {
        text.startAgain();
        for (int command = 0; command < commands; command++) {
            text.takeCommand();
            if (!tellsWhatIs()) {
                return TELLS_WHAT_IS_NOT;
            }
            if (commandIsRefused()) {
                return IS_REFUSED;
            }
            doCommand();
            text.takeSign(';');
        }
        return ALL_DONE;
    }

    private boolean tellsWhatIs() {
        switch (text.kind) {
            case WRITES:
                return isPage(text.page) && isPlace(text.place) && isEntry(text.letter, text.number);
            case ADDS:
                return isPage(text.page) && isEntry(text.letter, text.number);
            case STRIKES:
                return isPage(text.page) && isPlace(text.place);
            case TAKES_OVER:
                return isPage(text.page) && draft.dayOf(text.number) != NONE;
            case FORGETS:
                return draft.dayOf(text.number) != NONE;
            default:
                return true;
        }
    }

    private boolean commandIsRefused() {
        switch (text.kind) {
            case WRITES:
                return refusal.stopsWriting(draft, text.page, text.place);
            case ADDS:
                return refusal.stopsAdding(draft, text.page);
            case STRIKES:
                return refusal.stopsAtEmpty(draft, text.page, text.place);
            case TAKES_OVER:
                return refusal.stopsTakingOver(draft, text.page, draft.dayOf(text.number));
            case FORGETS:
                return refusal.stopsForgetting(draft, draft.dayOf(text.number));
            default:
                return refusal.stopsEvening(draft);
        }
    }

    private void doCommand() {
        switch (text.kind) {
            case WRITES:
                draft.writeEntry(text.page, text.place, text.letter, text.number);
                break;
            case ADDS:
                draft.writeEntry(text.page, draft.firstEmptyPlace(text.page), text.letter, text.number);
                break;
            case STRIKES:
                draft.strikeOut(text.page, text.place);
                break;
            case TAKES_OVER:
                draft.takePageFrom(draft.dayOf(text.number), text.page);
                break;
            case FORGETS:
                draft.forgetDay(draft.dayOf(text.number));
                break;
            default:
                draft.keepEvening();
                break;
        }
    }

    /**
     * All that a change can touch. Its days are the kept evenings, the earliest first, and now behind them, so that
     * the day of now has the index kept. Each day has its entries for itself: a sheet that days share is never
     * written on, so that its number alone tells that it is shared.
     */
    private static final class Book {
        private final int[] numbers = new int[EVENINGS];
        private final int[] sheets = new int[DAYS * PAGES];
        private final char[] people = new char[DAYS * DAY_PLACES];
        private final int[] debts = new int[DAYS * DAY_PLACES];
        private int kept = 1;
        private int latest = 0;
        private int sheetsMade = PAGES;
        private int written = 0;
        private int struck = 0;
        private int takenOver = 0;

        private Book() {
            for (int page = 0; page < PAGES; page++) {
                sheets[page] = page;
                sheets[PAGES + page] = page;
            }
        }

        private void copyFrom(Book other) {
            System.arraycopy(other.numbers, 0, numbers, 0, EVENINGS);
            System.arraycopy(other.sheets, 0, sheets, 0, DAYS * PAGES);
            System.arraycopy(other.people, 0, people, 0, DAYS * DAY_PLACES);
            System.arraycopy(other.debts, 0, debts, 0, DAYS * DAY_PLACES);
            kept = other.kept;
            latest = other.latest;
            sheetsMade = other.sheetsMade;
            written = other.written;
            struck = other.struck;
            takenOver = other.takenOver;
        }

        private static int indexOf(int day, int page, int place) {
            return day * DAY_PLACES + page * PLACES + place;
        }

        private int dayOf(int evening) {
            if (evening == NOW) {
                return kept;
            }
            for (int day = 0; day < kept; day++) {
                if (numbers[day] == evening) {
                    return day;
                }
            }
            return NONE;
        }

        private char personOn(int day, int page, int place) {
            return people[indexOf(day, page, place)];
        }

        private int debtOn(int day, int page, int place) {
            return debts[indexOf(day, page, place)];
        }

        private int sheetOn(int day, int page) {
            return sheets[day * PAGES + page];
        }

        /** Looks at the first days alone: those ahead of a day, the kept ones, or all. */
        private int daysWithSheet(int sheet, int page, int days) {
            int having = 0;
            for (int day = 0; day < days; day++) {
                if (sheets[day * PAGES + page] == sheet) {
                    having++;
                }
            }
            return having;
        }

        private int pagesAlone(int day) {
            int alone = 0;
            for (int page = 0; page < PAGES; page++) {
                if (daysWithSheet(sheetOn(day, page), page, kept + 1) == 1) {
                    alone++;
                }
            }
            return alone;
        }

        private int sheetsLeft() {
            int left = 0;
            for (int day = 0; day <= kept; day++) {
                for (int page = 0; page < PAGES; page++) {
                    if (daysWithSheet(sheetOn(day, page), page, day) == 0) {
                        left++;
                    }
                }
            }
            return left;
        }

        private void writeEntry(int page, int place, char person, int debt) {
            put(page, place, person, debt);
            written++;
        }

        /** Of a full page, which refuses to be added to, the last place. */
        private int firstEmptyPlace(int page) {
            int place = 0;
            while (place < PLACES - 1 && debtOn(kept, page, place) != 0) {
                place++;
            }
            return place;
        }

        private int oweMore(int page, int place, int more) {
            int debt = debtOn(kept, page, place) + more;
            if (debt == 0) {
                strikeOut(page, place);
            } else {
                put(page, place, personOn(kept, page, place), debt);
            }
            return debt;
        }

        private int strikeOut(int page, int place) {
            int debt = debtOn(kept, page, place);
            put(page, place, NOBODY, 0);
            struck++;
            return debt;
        }

        private void swapEntries(int page, int place, int other) {
            char person = personOn(kept, page, place);
            int debt = debtOn(kept, page, place);
            put(page, place, personOn(kept, page, other), debtOn(kept, page, other));
            put(page, other, person, debt);
        }

        private void put(int page, int place, char person, int debt) {
            makeSheetItsOwn(page);
            int index = indexOf(kept, page, place);
            people[index] = person;
            debts[index] = debt;
        }

        private void makeSheetItsOwn(int page) {
            if (daysWithSheet(sheetOn(kept, page), page, kept) > 0) {
                sheets[kept * PAGES + page] = sheetsMade;
                sheetsMade++;
            }
        }

        private void keepEvening() {
            latest++;
            numbers[kept] = latest;
            moveDays(kept, kept + 1, 1);
            kept++;
        }

        private void forgetDay(int day) {
            System.arraycopy(numbers, day + 1, numbers, day, kept - day - 1);
            moveDays(day + 1, day, kept - day);
            kept--;
        }

        private void moveDays(int from, int to, int days) {
            System.arraycopy(sheets, from * PAGES, sheets, to * PAGES, days * PAGES);
            System.arraycopy(people, from * DAY_PLACES, people, to * DAY_PLACES, days * DAY_PLACES);
            System.arraycopy(debts, from * DAY_PLACES, debts, to * DAY_PLACES, days * DAY_PLACES);
        }

        private void takePageFrom(int day, int page) {
            int from = indexOf(day, page, 0);
            int to = indexOf(kept, page, 0);
            sheets[kept * PAGES + page] = sheetOn(day, page);
            System.arraycopy(people, from, people, to, PLACES);
            System.arraycopy(debts, from, debts, to, PLACES);
            takenOver++;
        }

        private int entriesOn(int day, int page) {
            int entries = 0;
            for (int place = 0; place < PLACES; place++) {
                if (debtOn(day, page, place) != 0) {
                    entries++;
                }
            }
            return entries;
        }

        private int sumOn(int day, int page) {
            int sum = 0;
            for (int place = 0; place < PLACES; place++) {
                sum += debtOn(day, page, place);
            }
            return sum;
        }

        private int peopleOn(int day, int page) {
            int found = 0;
            for (int place = 0; place < PLACES; place++) {
                if (debtOn(day, page, place) != 0) {
                    found |= 1 << (personOn(day, page, place) - FIRST_PERSON);
                }
            }
            return Integer.bitCount(found);
        }

        private int allEntries(int day) {
            int entries = 0;
            for (int page = 0; page < PAGES; page++) {
                entries += entriesOn(day, page);
            }
            return entries;
        }

        private int sumOfAll(int day) {
            int sum = 0;
            for (int page = 0; page < PAGES; page++) {
                sum += sumOn(day, page);
            }
            return sum;
        }

        private int differentSheets(int day, int other) {
            int different = 0;
            for (int page = 0; page < PAGES; page++) {
                if (sheetOn(day, page) != sheetOn(other, page)) {
                    different++;
                }
            }
            return different;
        }

        private int differentPlaces(int day, int other, int page) {
            int different = 0;
            for (int place = 0; place < PLACES; place++) {
                if (debtOn(day, page, place) != debtOn(other, page, place)
                        || personOn(day, page, place) != personOn(other, page, place)) {
                    different++;
                }
            }
            return different;
        }

        private int debtOf(char person, int day) {
            int debt = 0;
            for (int page = 0; page < PAGES; page++) {
                debt += debtOnPage(person, day, page);
            }
            return debt;
        }

        private int debtOnPage(char person, int day, int page) {
            int debt = 0;
            for (int place = 0; place < PLACES; place++) {
                if (personOn(day, page, place) == person) {
                    debt += debtOn(day, page, place);
                }
            }
            return debt;
        }

        private int debtByDifferences(char person, int lastDay) {
            int debt = debtOf(person, 0);
            for (int day = 1; day <= lastDay; day++) {
                debt += differenceSince(person, day);
            }
            return debt;
        }

        /** Skips the pages that have their sheet of the day before still: nothing is different on them. */
        private int differenceSince(char person, int day) {
            int difference = 0;
            for (int page = 0; page < PAGES; page++) {
                if (sheetOn(day, page) != sheetOn(day - 1, page)) {
                    difference += debtOnPage(person, day, page) - debtOnPage(person, day - 1, page);
                }
            }
            return difference;
        }

        private int eveningOfGreatestDebt(char person) {
            int greatestDay = 0;
            int greatestDebt = debtOf(person, 0);
            for (int day = 1; day < kept; day++) {
                int debt = debtOf(person, day);
                if (debt >= greatestDebt) {
                    greatestDay = day;
                    greatestDebt = debt;
                }
            }
            return numbers[greatestDay];
        }

        private int latestEveningWithout(char person) {
            int evening = NONE;
            for (int day = 0; day < kept; day++) {
                if (firstSpotOf(person, day) == NONE) {
                    evening = numbers[day];
                }
            }
            return evening;
        }

        private int firstSpotOf(char person, int day) {
            for (int spot = 0; spot < DAY_PLACES; spot++) {
                if (people[day * DAY_PLACES + spot] == person) {
                    return spot;
                }
            }
            return NONE;
        }

        private int spotByRank(int day, int rank) {
            for (int spot = 0; spot < DAY_PLACES; spot++) {
                if (debts[day * DAY_PLACES + spot] != 0 && entriesAhead(day, spot) == rank) {
                    return spot;
                }
            }
            return NONE;
        }

        private int entriesAhead(int day, int spot) {
            int first = day * DAY_PLACES;
            int debt = debts[first + spot];
            int ahead = 0;
            for (int other = 0; other < DAY_PLACES; other++) {
                int otherDebt = debts[first + other];
                if (otherDebt != 0 && (otherDebt > debt || otherDebt == debt && other < spot)) {
                    ahead++;
                }
            }
            return ahead;
        }
    }

    /** What each person owes on one day, summed up once so that people can be ranked by it. */
    private static final class Totals {
        private final int[] sums = new int[PEOPLE];
        private final int[] entries = new int[PEOPLE];

        private void sumUp(Book book, int day) {
            for (int index = 0; index < PEOPLE; index++) {
                sums[index] = 0;
                entries[index] = 0;
            }
            for (int spot = 0; spot < DAY_PLACES; spot++) {
                int index = book.people[day * DAY_PLACES + spot] - FIRST_PERSON;
                if (index >= 0 && index < PEOPLE) {
                    sums[index] += book.debts[day * DAY_PLACES + spot];
                    entries[index]++;
                }
            }
        }

        private char personByRank(int rank) {
            for (int index = 0; index < PEOPLE; index++) {
                if (entries[index] > 0 && peopleAhead(index) == rank) {
                    return (char) (FIRST_PERSON + index);
                }
            }
            return NOBODY;
        }

        private int peopleAhead(int index) {
            int ahead = 0;
            for (int other = 0; other < PEOPLE; other++) {
                boolean owesMore = sums[other] > sums[index] || sums[other] == sums[index] && other < index;
                if (entries[other] > 0 && owesMore) {
                    ahead++;
                }
            }
            return ahead;
        }
    }

    /** The books as they were just before the latest changes, in a ring whose rooms are used again. */
    private static final class History {
        private final Book[] books = new Book[CHANGES];
        private int next = 0;
        private int size = 0;

        private History() {
            for (int index = 0; index < CHANGES; index++) {
                books[index] = new Book();
            }
        }

        private void rememberBook(Book book) {
            Book room = books[next];
            if (room != null) {
                room.copyFrom(book);
            }
            next = (next + 1) % CHANGES;
            size = Math.min(size + 1, CHANGES);
        }

        private void giveBack(Book book) {
            next = (next + CHANGES - 1) % CHANGES;
            size--;
            Book room = books[next];
            if (room != null) {
                book.copyFrom(room);
            }
        }
    }

    /** Tells whether a book refuses something, and keeps the reason if it does. */
    private static final class Refusal {
        private int number = 0;
        private int detail = 0;

        private boolean keepIf(boolean applies, int newNumber, int newDetail) {
            if (applies) {
                number = newNumber;
                detail = newDetail;
            }
            return applies;
        }

        private boolean stopsWriting(Book book, int page, int place) {
            int debt = book.debtOn(book.kept, page, place);
            return keepIf(debt != 0, PLACE_IS_TAKEN, debt);
        }

        private boolean stopsAdding(Book book, int page) {
            int entries = book.entriesOn(book.kept, page);
            return keepIf(entries >= PLACES, PAGE_IS_FULL, entries);
        }

        private boolean stopsAtEmpty(Book book, int page, int place) {
            return keepIf(book.debtOn(book.kept, page, place) == 0, PLACE_IS_EMPTY, place);
        }

        private boolean stopsOwing(Book book, int page, int place, int more) {
            int beyond = Math.abs(book.debtOn(book.kept, page, place) + more) - DEBT_LIMIT;
            return stopsAtEmpty(book, page, place) || keepIf(beyond > 0, DEBT_IS_BEYOND, beyond);
        }

        private boolean stopsEvening(Book book) {
            return keepIf(book.kept >= EVENINGS, TOO_MANY_EVENINGS, book.kept);
        }

        private boolean stopsTakingOver(Book book, int page, int day) {
            int sheet = book.sheetOn(day, page);
            return keepIf(sheet == book.sheetOn(book.kept, page), SHEET_IS_SAME, sheet);
        }

        private boolean stopsForgetting(Book book, int day) {
            return keepIf(day >= book.kept - 1, EVENING_IS_LATEST, book.latest);
        }
    }

    /**
     * The input, taken sign by sign. No sign is passed before it fits, so that the place where the taking ends is
     * the error position of a malformed text.
     */
    private static final class Text {
        private final StringBuilder signs = new StringBuilder();
        private int at = 0;
        private int kind = 0;
        private int page = 0;
        private int place = 0;
        private char letter = NOBODY;
        private int number = 0;

        private void empty() {
            signs.setLength(0);
        }

        private void startAgain() {
            at = 0;
        }

        /** 0 stands for a malformed text. */
        private int countCommands() {
            startAgain();
            for (int count = 1; count <= INPUT_LIMIT; count++) {
                if (!takeCommand()) {
                    return 0;
                }
                if (!takeSign(';')) {
                    return at == signs.length() ? count : 0;
                }
            }
            return 0;
        }

        private boolean takeCommand() {
            if (takeSign('e')) {
                kind = LETS_COME;
                return true;
            }
            if (takeSign('f')) {
                kind = FORGETS;
                return takeNumber(false);
            }
            if (takeSign('t')) {
                kind = TAKES_OVER;
                return takePage() && takeSign('@') && takeNumber(false);
            }
            return takePage() && takeEntryCommand();
        }

        private boolean takeEntryCommand() {
            if (takeSign('+')) {
                kind = ADDS;
                return takeLetter() && takeNumber(true);
            }
            if (!takePlace()) {
                return false;
            }
            if (takeSign('-')) {
                kind = STRIKES;
                return true;
            }
            kind = WRITES;
            return takeLetter() && takeNumber(true);
        }

        private boolean takePage() {
            page = takeDigit();
            return page != NONE;
        }

        private boolean takePlace() {
            place = takeDigit();
            return place != NONE;
        }

        private boolean takeLetter() {
            if (!isAtSignFrom('a', 'z')) {
                return false;
            }
            letter = signs.charAt(at);
            at++;
            return true;
        }

        private boolean takeNumber(boolean isDebt) {
            int direction = isDebt && takeSign('~') ? -1 : 1;
            number = 0;
            for (int digits = 0; digits < NUMBER_DIGITS; digits++) {
                int digit = takeDigit();
                if (digit == NONE) {
                    return digits > 0;
                }
                number = 10 * number + direction * digit;
            }
            return true;
        }

        private int takeDigit() {
            if (!isAtSignFrom('0', '9')) {
                return NONE;
            }
            int digit = signs.charAt(at) - '0';
            at++;
            return digit;
        }

        private boolean takeSign(char sign) {
            if (!isAtSignFrom(sign, sign)) {
                return false;
            }
            at++;
            return true;
        }

        private boolean isAtSignFrom(char lowest, char highest) {
            if (at >= signs.length()) {
                return false;
            }
            char sign = signs.charAt(at);
            return sign >= lowest && sign <= highest;
        }
    }
}
