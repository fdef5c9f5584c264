import java.util.ArrayDeque;
import java.util.ArrayList;
import java.util.Arrays;
import java.util.HashSet;
import java.util.IdentityHashMap;
import java.util.List;
import java.util.Map;
import java.util.NoSuchElementException;
import java.util.Set;
import java.util.TreeMap;
import java.util.regex.Matcher;
import java.util.regex.Pattern;

/**
 * The document written a second time, in another way: sheets that are shared as objects, snapshots that are copied
 * whole, texts that are matched by a pattern. Each method answers as that of the same name does.
 */
final class LedgerModel {
    private record Entry(char person, int debt) {
    }

    private static final class Sheet {
        final int number;
        final Entry[] entries;

        Sheet(int number, Entry[] entries) {
            this.number = number;
            this.entries = entries.clone();
        }
    }

    private static final class State {
        TreeMap<Integer, Sheet[]> kept = new TreeMap<>();
        Sheet[] now = new Sheet[8];
        int made = 8;
        int copies = 0;
        int written = 0;
        int struck = 0;
        int taken = 0;

        State copy() {
            Map<Sheet, Sheet> copied = new IdentityHashMap<>();
            State copy = new State();
            kept.forEach((evening, sheets) -> copy.kept.put(evening, copySheets(sheets, copied)));
            copy.now = copySheets(now, copied);
            copy.made = made;
            copy.copies = copies;
            copy.written = written;
            copy.struck = struck;
            copy.taken = taken;
            return copy;
        }

        private static Sheet[] copySheets(Sheet[] sheets, Map<Sheet, Sheet> copied) {
            Sheet[] copy = new Sheet[8];
            for (int page = 0; page < 8; page++) {
                copy[page] = copied.computeIfAbsent(sheets[page], old -> new Sheet(old.number, old.entries));
            }
            return copy;
        }

        Sheet[] sheetsOf(int evening) {
            Sheet[] sheets = evening == -1 ? now : kept.get(evening);
            if (sheets == null) {
                throw new IndexOutOfBoundsException();
            }
            return sheets;
        }

        List<Sheet[]> days() {
            List<Sheet[]> days = new ArrayList<>(kept.values());
            days.add(now);
            return days;
        }

        Set<Sheet> left() {
            Set<Sheet> left = new HashSet<>();
            for (Sheet[] day : days()) {
                left.addAll(Arrays.asList(day));
            }
            return left;
        }

        int evenings(int page, Sheet sheet) {
            return (int) kept.values().stream().filter(day -> day[page] == sheet).count();
        }

        Entry[] toChange(int page) {
            if (evenings(page, now[page]) > 0) {
                now[page] = new Sheet(made, now[page].entries);
                made++;
                copies++;
            }
            return now[page].entries;
        }
    }

    private static final class Refused extends RuntimeException {
        private static final long serialVersionUID = 1;
        final int reason;
        final int detail;

        Refused(int reason, int detail) {
            this.reason = reason;
            this.detail = detail;
        }
    }

    private interface Change {
        int on(State state);
    }

    private static final String NUMBER = "([0-9]{1,3})";
    private static final String DEBT = "(~?[0-9]{1,3})";
    private static final Pattern WRITE = Pattern.compile("([0-9])([0-9])([a-z])" + DEBT);
    private static final Pattern ADD = Pattern.compile("([0-9])\\+([a-z])" + DEBT);
    private static final Pattern STRIKE = Pattern.compile("([0-9])([0-9])-");
    private static final Pattern TAKE = Pattern.compile("t([0-9])@" + NUMBER);
    private static final Pattern FORGET = Pattern.compile("f" + NUMBER);
    private static final String ANY = "(?:" + WRITE + "|" + ADD + "|" + STRIKE + "|e|" + TAKE + "|" + FORGET + ")";
    private static final Pattern TEXT = Pattern.compile(ANY + "(?:;" + ANY + ")*");

    private State state = new State();
    private State saved = null;
    private final ArrayDeque<State> history = new ArrayDeque<>();
    private String input = "";
    private String line = "";
    private Integer errorPosition = null;
    private Refused refused = null;

    LedgerModel() {
        for (int page = 0; page < 8; page++) {
            state.now[page] = new Sheet(page, new Entry[6]);
        }
        state.kept.put(0, state.now.clone());
    }

    private static void need(boolean isSo, RuntimeException otherwise) {
        if (!isSo) {
            throw otherwise;
        }
    }

    private static void needIndex(boolean isSo) {
        need(isSo, new IndexOutOfBoundsException());
    }

    private static void needArgument(boolean isSo) {
        need(isSo, new IllegalArgumentException());
    }

    private static boolean isPage(int page) {
        return 0 <= page && page <= 7;
    }

    private static boolean isPlace(int place) {
        return 0 <= place && place <= 5;
    }

    private static boolean isPerson(char person) {
        return "abcdefghij".indexOf(person) >= 0;
    }

    private static boolean isDebt(int debt) {
        return debt != 0 && Math.abs((long) debt) < 1000;
    }

    private int change(Change change) {
        State before = state.copy();
        int answer;
        try {
            answer = change.on(state);
        } catch (Refused thrown) {
            refused = thrown;
            state = before;
            throw new UnsupportedOperationException();
        } catch (RuntimeException thrown) {
            state = before;
            throw thrown;
        }
        history.addLast(before);
        if (history.size() > 6) {
            history.removeFirst();
        }
        return answer;
    }

    private static int entries(Sheet sheet) {
        return (int) Arrays.stream(sheet.entries).filter(entry -> entry != null).count();
    }

    private static int write(State s, int page, int place, char person, int debt) {
        needIndex(isPage(page) && isPlace(place));
        needArgument(isPerson(person) && isDebt(debt));
        Entry there = s.now[page].entries[place];
        if (there != null) {
            throw new Refused(2, there.debt);
        }
        s.toChange(page)[place] = new Entry(person, debt);
        s.written++;
        return entries(s.now[page]);
    }

    private static int add(State s, int page, char person, int debt) {
        needIndex(isPage(page));
        needArgument(isPerson(person) && isDebt(debt));
        int place = Arrays.asList(s.now[page].entries).indexOf(null);
        if (place < 0) {
            throw new Refused(7, 6);
        }
        write(s, page, place, person, debt);
        return place;
    }

    private static int strike(State s, int page, int place) {
        needIndex(isPage(page) && isPlace(place));
        Entry there = s.now[page].entries[place];
        if (there == null) {
            throw new Refused(3, place);
        }
        s.toChange(page)[place] = null;
        s.struck++;
        return there.debt;
    }

    private static int evening(State s) {
        if (s.kept.size() == 12) {
            throw new Refused(1, 12);
        }
        s.kept.put(s.kept.lastKey() + 1, s.now.clone());
        return s.kept.lastKey();
    }

    private static int takeOver(State s, int page, int evening) {
        needIndex(isPage(page));
        Sheet sheet = s.sheetsOf(evening)[page];
        if (sheet == s.now[page]) {
            throw new Refused(6, sheet.number);
        }
        s.now[page] = sheet;
        s.taken++;
        return sheet.number;
    }

    private static int forget(State s, int evening) {
        needIndex(s.kept.containsKey(evening));
        if (evening == s.kept.lastKey()) {
            throw new Refused(5, evening);
        }
        int before = s.left().size();
        s.kept.remove(evening);
        return before - s.left().size();
    }

    public int write(int page, int place, char person, int debt) {
        return change(s -> write(s, page, place, person, debt));
    }

    public int add(int page, char person, int debt) {
        return change(s -> add(s, page, person, debt));
    }

    public int owe(int page, int place, int more) {
        return change(s -> {
            needIndex(isPage(page) && isPlace(place));
            needArgument(more == 0 || isDebt(more));
            Entry there = s.now[page].entries[place];
            if (there == null) {
                throw new Refused(3, place);
            }
            int debt = there.debt + more;
            if (debt > 999) {
                throw new Refused(4, debt - 999);
            }
            if (debt < -999) {
                throw new Refused(4, -999 - debt);
            }
            if (debt == 0) {
                strike(s, page, place);
            } else {
                s.toChange(page)[place] = new Entry(there.person, debt);
            }
            return debt;
        });
    }

    public int strike(int page, int place) {
        return change(s -> strike(s, page, place));
    }

    public int swap(int page, int place, int other) {
        return change(s -> {
            needIndex(isPage(page) && isPlace(place) && isPlace(other));
            for (int one : new int[] {place, other}) {
                if (s.now[page].entries[one] == null) {
                    throw new Refused(3, one);
                }
            }
            Entry[] entries = s.toChange(page);
            Entry there = entries[place];
            entries[place] = entries[other];
            entries[other] = there;
            return entries(s.now[page]);
        });
    }

    private Entry entryAt(int evening, int page, int place) {
        Sheet[] sheets = state.sheetsOf(evening);
        needArgument(isPage(page) && isPlace(place));
        return sheets[page].entries[place];
    }

    public char personAt(int evening, int page, int place) {
        Entry entry = entryAt(evening, page, place);
        need(entry != null, new NoSuchElementException());
        return entry.person;
    }

    public int debtAt(int evening, int page, int place) {
        Entry entry = entryAt(evening, page, place);
        return entry == null ? 0 : entry.debt;
    }

    private static List<Entry> entriesOf(Sheet... sheets) {
        List<Entry> entries = new ArrayList<>();
        for (Sheet sheet : sheets) {
            Arrays.stream(sheet.entries).filter(entry -> entry != null).forEach(entries::add);
        }
        return entries;
    }

    private static int sum(List<Entry> entries) {
        return entries.stream().mapToInt(Entry::debt).sum();
    }

    public int pageOf(int evening, int page, int what) {
        Sheet[] sheets = state.sheetsOf(evening);
        needArgument(isPage(page) && what >= 0 && what <= 4);
        List<Entry> entries = entriesOf(sheets[page]);
        int people = (int) entries.stream().map(Entry::person).distinct().count();
        int evenings = state.evenings(page, sheets[page]);
        return new int[] {entries.size(), sum(entries), sheets[page].number, evenings, people}[what];
    }

    public int evening() {
        return change(LedgerModel::evening);
    }

    public int takeOver(int page, int evening) {
        return change(s -> takeOver(s, page, evening));
    }

    public int forget(int evening) {
        return change(s -> forget(s, evening));
    }

    public int keptAt(int place) {
        List<Integer> evenings = new ArrayList<>(state.kept.keySet());
        need(place >= 0 && place < evenings.size(), new NoSuchElementException());
        return evenings.get(place);
    }

    public int sheetsApart(int evening, int other) {
        Sheet[] one = state.sheetsOf(evening);
        Sheet[] two = state.sheetsOf(other);
        int apart = 0;
        for (int page = 0; page < 8; page++) {
            apart += one[page] == two[page] ? 0 : 1;
        }
        return apart;
    }

    public int placesApart(int evening, int other) {
        Sheet[] one = state.sheetsOf(evening);
        Sheet[] two = state.sheetsOf(other);
        int apart = 0;
        for (int spot = 0; spot < 48; spot++) {
            Entry[] pair = {one[spot / 6].entries[spot % 6], two[spot / 6].entries[spot % 6]};
            apart += pair[0] == null ? (pair[1] == null ? 0 : 1) : pair[0].equals(pair[1]) ? 0 : 1;
        }
        return apart;
    }

    public boolean isLike(int evening, int other, int page) {
        Sheet[] one = state.sheetsOf(evening);
        Sheet[] two = state.sheetsOf(other);
        needArgument(isPage(page));
        return Arrays.equals(one[page].entries, two[page].entries);
    }

    private static List<Entry> entriesOf(char person, Sheet[] sheets) {
        List<Entry> entries = entriesOf(sheets);
        entries.removeIf(entry -> entry.person != person);
        return entries;
    }

    public int debt(int evening, char person) {
        Sheet[] sheets = state.sheetsOf(evening);
        needArgument(isPerson(person));
        return sum(entriesOf(person, sheets));
    }

    public int debtAgain(int evening, char person) {
        return debt(evening, person);
    }

    public int greatestOn(char person) {
        needArgument(isPerson(person));
        return state.kept.keySet().stream().max((one, two) ->
            debt(one, person) != debt(two, person) ? debt(one, person) - debt(two, person) : one - two).get();
    }

    public int without(char person) {
        needArgument(isPerson(person));
        return state.kept.descendingMap().entrySet().stream()
            .filter(evening -> entriesOf(person, evening.getValue()).isEmpty())
            .findFirst().orElseThrow().getKey();
    }

    public char owing(int evening, int place) {
        List<Character> people = new ArrayList<>();
        for (Entry entry : entriesOf(state.sheetsOf(evening))) {
            if (!people.contains(entry.person)) {
                people.add(entry.person);
            }
        }
        people.sort((one, two) -> debt(evening, one) != debt(evening, two)
            ? debt(evening, two) - debt(evening, one) : one - two);
        need(place >= 0 && place < people.size(), new NoSuchElementException());
        return people.get(place);
    }

    public int greatest(int evening, int place) {
        Sheet[] sheets = state.sheetsOf(evening);
        List<int[]> found = new ArrayList<>();
        for (int spot = 0; spot < 48; spot++) {
            Entry entry = sheets[spot / 6].entries[spot % 6];
            if (entry != null) {
                found.add(new int[] {spot / 6 * 10 + spot % 6, entry.debt});
            }
        }
        found.sort((one, two) -> two[1] - one[1]);
        need(place >= 0 && place < found.size(), new NoSuchElementException());
        return found.get(place)[0];
    }

    public int find(int evening, char person) {
        Sheet[] sheets = state.sheetsOf(evening);
        needArgument(isPerson(person));
        for (int spot = 0; spot < 48; spot++) {
            Entry entry = sheets[spot / 6].entries[spot % 6];
            if (entry != null && entry.person == person) {
                return spot / 6 * 10 + spot % 6;
            }
        }
        throw new NoSuchElementException();
    }

    public int tell(int evening, int page) {
        Sheet[] sheets = state.sheetsOf(evening);
        needArgument(isPage(page));
        List<String> words = new ArrayList<>();
        for (Entry entry : sheets[page].entries) {
            words.add(entry == null ? "." : entry.person + "" + entry.debt);
        }
        line = String.join(" ", words);
        return line.length();
    }

    public int show(int evening) {
        Sheet[] sheets = state.sheetsOf(evening);
        Set<Sheet> ahead = new HashSet<>();
        state.kept.forEach((number, day) -> {
            if (evening == -1 || number < evening) {
                ahead.addAll(Arrays.asList(day));
            }
        });
        List<String> words = new ArrayList<>();
        for (Sheet sheet : sheets) {
            words.add(sheet.number + (ahead.contains(sheet) ? "" : "!"));
        }
        line = String.join(",", words);
        return line.length();
    }

    public char character(int index) {
        need(index >= 0 && index < line.length(), new NoSuchElementException());
        return line.charAt(index);
    }

    public double meanDebt(int evening) {
        List<Entry> entries = entriesOf(state.sheetsOf(evening));
        need(!entries.isEmpty(), new ArithmeticException());
        return (double) sum(entries) / (double) entries.size();
    }

    public float aloneShare() {
        int pages = 0;
        int alone = 0;
        for (Sheet[] day : state.days()) {
            for (Sheet sheet : day) {
                pages++;
                long having = state.days().stream().filter(other -> Arrays.asList(other).contains(sheet)).count();
                alone += having == 1 ? 1 : 0;
            }
        }
        return (float) alone / (float) pages;
    }

    public int account(int account) {
        needArgument(account >= 0 && account <= 11);
        List<Entry> entries = entriesOf(state.now);
        return new int[] {state.kept.lastKey(), state.kept.size(), state.left().size(), state.made, state.copies,
            entries.size(), sum(entries), state.written, state.struck, state.taken, input.length(),
            history.size()}[account];
    }

    public int append(char character) {
        needArgument(character >= 32 && character <= 126);
        need(input.length() < 60, new IllegalStateException());
        input += character;
        return input.length();
    }

    public int read() {
        String text = input;
        input = "";
        if (!TEXT.matcher(text).matches()) {
            errorPosition = errorPositionOf(text);
            throw new IllegalArgumentException();
        }
        return change(s -> {
            String[] commands = text.split(";");
            for (String command : commands) {
                carryOut(s, command);
            }
            return commands.length;
        });
    }

    private static int errorPositionOf(String text) {
        for (int k = 0; k < text.length(); k++) {
            Matcher start = TEXT.matcher(text.substring(0, k + 1));
            if (!start.matches() && !start.hitEnd()) {
                return k;
            }
        }
        return text.length();
    }

    private static void carryOut(State s, String command) {
        try {
            carryOutPlainly(s, command);
        } catch (IndexOutOfBoundsException | IllegalArgumentException wrong) {
            throw new IllegalStateException();
        }
    }

    private static void carryOutPlainly(State s, String command) {
        Matcher write = WRITE.matcher(command);
        Matcher add = ADD.matcher(command);
        Matcher strike = STRIKE.matcher(command);
        Matcher take = TAKE.matcher(command);
        Matcher forget = FORGET.matcher(command);
        if (write.matches()) {
            write(s, number(write.group(1)), number(write.group(2)), write.group(3).charAt(0), number(write.group(4)));
        } else if (add.matches()) {
            add(s, number(add.group(1)), add.group(2).charAt(0), number(add.group(3)));
        } else if (strike.matches()) {
            strike(s, number(strike.group(1)), number(strike.group(2)));
        } else if (take.matches()) {
            takeOver(s, number(take.group(1)), number(take.group(2)));
        } else if (forget.matches()) {
            forget(s, number(forget.group(1)));
        } else {
            evening(s);
        }
    }

    private static int number(String digits) {
        return Integer.parseInt(digits.replace('~', '-'));
    }

    public int errorPosition() {
        need(errorPosition != null, new NoSuchElementException());
        return errorPosition;
    }

    public int reason(boolean isDetail) {
        need(refused != null, new NoSuchElementException());
        return isDetail ? refused.detail : refused.reason;
    }

    public int undo() {
        need(!history.isEmpty(), new NoSuchElementException());
        state = history.removeLast();
        return history.size();
    }

    public int save() {
        saved = state.copy();
        return state.kept.size();
    }

    public int restore() {
        need(saved != null, new IllegalStateException());
        state = saved.copy();
        history.clear();
        return state.kept.size();
    }
}
