import java.util.ArrayDeque;
import java.util.ArrayList;
import java.util.Arrays;
import java.util.Deque;
import java.util.List;
import java.util.Set;
import java.util.TreeSet;
import java.util.regex.Matcher;
import java.util.regex.Pattern;

/**
 * The document once more, held quite differently from RowVeils: rows are things with a name of their own,
 * questions are sets of these names, texts are read by a pattern. ModelTest plays both side by side.
 */
final class PlainVeils {
    static final int NONE = -1;
    private static final Pattern PART = Pattern.compile("([0-4])([nesw])(0|[1-9][0-9]?)(!{0,3})");

    record Row(int name, int owner, int place, int value, int secrecy) {
    }

    /** All that undo brings back; nothing in it is shared with another one. */
    private static final class All {
        List<Row> rows = new ArrayList<>();
        int[] rank = new int[5];
        int[] home = new int[5];
        int[] master = {NONE, NONE, NONE, NONE, NONE};
        boolean[] force = {true, true, true, true};
        int[] setting = {1, 1, 0};
        List<List<Set<Integer>>> memory = new ArrayList<>();
        int[] answers = new int[5];
        int[] refused = new int[5];
        int givenAway = 0;

        All() {
            for (int p = 0; p < 5; p++) {
                memory.add(new ArrayList<>());
            }
        }

        All copy() {
            All c = new All();
            c.rows = new ArrayList<>(rows);
            c.rank = rank.clone();
            c.home = home.clone();
            c.master = master.clone();
            c.force = force.clone();
            c.setting = setting.clone();
            for (int p = 0; p < 5; p++) {
                for (Set<Integer> names : memory.get(p)) {
                    c.memory.get(p).add(new TreeSet<>(names));
                }
            }
            c.answers = answers.clone();
            c.refused = refused.clone();
            c.givenAway = givenAway;
            return c;
        }
    }

    private All now = new All();
    private final Deque<All> saved = new ArrayDeque<>();
    private String buffer = "";
    private int names = 0;

    private static void index(boolean is) {
        if (!is) {
            throw new IndexOutOfBoundsException();
        }
    }

    private static void argument(boolean is) {
        if (!is) {
            throw new IllegalArgumentException();
        }
    }

    private static void state(boolean is) {
        if (!is) {
            throw new IllegalStateException();
        }
    }

    private static boolean in(int n, int from, int to) {
        return from <= n && n <= to;
    }

    private boolean isRow(int r) {
        return r >= 0 && r < now.rows.size();
    }

    private void save() {
        saved.addLast(now.copy());
        if (saved.size() > 6) {
            saved.removeFirst();
        }
    }

    int row(int owner, int place, int value, int secrecy) {
        index(in(owner, 0, 4) && in(place, 0, 3));
        argument(in(value, 0, 99) && in(secrecy, 0, 3));
        state(now.rows.size() < 16);
        save();
        now.rows.add(new Row(names++, owner, place, value, secrecy));
        return now.rows.size() - 1;
    }

    int drop(int row) {
        index(isRow(row));
        save();
        Row gone = now.rows.remove(row);
        for (List<Set<Integer>> questions : now.memory) {
            for (Set<Integer> question : questions) {
                question.remove(gone.name());
            }
        }
        return now.rows.size();
    }

    int change(int row, int value) {
        index(isRow(row));
        argument(in(value, 0, 99));
        save();
        Row was = now.rows.get(row);
        now.rows.set(row, new Row(was.name(), was.owner(), was.place(), value, was.secrecy()));
        return was.value();
    }

    int person(int person, int rank, int home) {
        index(in(person, 0, 4) && in(home, 0, 3));
        argument(in(rank, 0, 3));
        save();
        int was = now.rank[person];
        now.rank[person] = rank;
        now.home[person] = home;
        return was;
    }

    int master(int person, int master) {
        index(in(person, 0, 4) && in(master, -1, 4));
        argument(person != master);
        save();
        int was = now.master[person];
        now.master[person] = master;
        return was;
    }

    int force(int rule, boolean is) {
        index(in(rule, 0, 3));
        save();
        boolean was = now.force[rule];
        now.force[rule] = is;
        return was ? 1 : 0;
    }

    int set(int setting, int value) {
        index(in(setting, 0, 2));
        argument(setting == 2 ? in(value, 0, 1) : in(value, 1, 9));
        save();
        int was = now.setting[setting];
        now.setting[setting] = value;
        return was;
    }

    private boolean veiledBy(int rule, int asker, Row row) {
        if (!now.force[rule] || row.owner() == asker) {
            return false;
        }
        if (rule == 0) {
            return row.secrecy() > now.rank[asker];
        }
        if (rule == 1) {
            return row.place() != now.home[asker] && (row.secrecy() == 2 || row.secrecy() == 3);
        }
        if (rule == 2) {
            return row.value() >= 90;
        }
        int first = now.master[row.owner()];
        int second = first == NONE ? NONE : now.master[first];
        return row.secrecy() == 3 && (first == asker || second == asker);
    }

    private int veilCount(int asker, Row row) {
        int many = 0;
        for (int rule = 0; rule < 4; rule++) {
            many += veiledBy(rule, asker, row) ? 1 : 0;
        }
        return many;
    }

    private List<Row> ofPlace(int place, int least, int greatest) {
        List<Row> found = new ArrayList<>();
        for (Row row : now.rows) {
            if ((place == NONE || row.place() == place) && in(row.value(), least, greatest)) {
                found.add(row);
            }
        }
        return found;
    }

    private List<Row> seen(int asker, int place, int least, int greatest) {
        List<Row> found = ofPlace(place, least, greatest);
        found.removeIf(row -> veilCount(asker, row) > 0);
        return found;
    }

    private static Set<Integer> namesOf(List<Row> rows) {
        Set<Integer> found = new TreeSet<>();
        for (Row row : rows) {
            found.add(row.name());
        }
        return found;
    }

    private boolean givesAway(int asker, Set<Integer> question) {
        for (Set<Integer> old : now.memory.get(asker)) {
            Set<Integer> more = new TreeSet<>(question);
            more.removeAll(old);
            Set<Integer> less = new TreeSet<>(old);
            less.removeAll(question);
            if (more.size() + less.size() == 1) {
                return true;
            }
        }
        return false;
    }

    private boolean tooSmall(List<Row> rows) {
        return rows.size() > 0 && rows.size() < now.setting[0];
    }

    private int counted(int asker, List<Row> rows) {
        if (tooSmall(rows) || (now.setting[2] == 1 && givesAway(asker, namesOf(rows)))) {
            return NONE;
        }
        return rows.size() / now.setting[1] * now.setting[1];
    }

    private int summed(List<Row> rows) {
        int sum = 0;
        int top = 0;
        for (Row row : rows) {
            sum += row.value();
            top = Math.max(top, row.value());
        }
        return tooSmall(rows) || (!rows.isEmpty() && 2 * top > sum) ? NONE : sum;
    }

    private void question(int asker, int place, int least, int greatest) {
        index(in(asker, 0, 4) && in(place, -1, 3));
        argument(in(least, 0, 99) && in(greatest, least, 99));
    }

    int ask(int asker, int place, int least, int greatest) {
        question(asker, place, least, greatest);
        save();
        List<Row> rows = seen(asker, place, least, greatest);
        int answer = counted(asker, rows);
        now.answers[asker]++;
        if (answer == NONE) {
            now.refused[asker]++;
            return NONE;
        }
        if (givesAway(asker, namesOf(rows))) {
            now.givenAway++;
        }
        now.memory.get(asker).add(namesOf(rows));
        if (now.memory.get(asker).size() > 6) {
            now.memory.get(asker).remove(0);
        }
        return answer;
    }

    int askSum(int asker, int place, int least, int greatest) {
        question(asker, place, least, greatest);
        save();
        int answer = summed(seen(asker, place, least, greatest));
        now.answers[asker]++;
        now.refused[asker] += answer == NONE ? 1 : 0;
        return answer;
    }

    int forget(int asker) {
        index(in(asker, 0, 4));
        save();
        int were = now.memory.get(asker).size();
        now.memory.get(asker).clear();
        return were;
    }

    int append(int code) {
        argument(in(code, 33, 126));
        state(buffer.length() < 60);
        buffer += (char) code;
        return buffer.length();
    }

    int clearBuffer() {
        int had = buffer.length();
        buffer = "";
        return had;
    }

    /** The first character with which the text is no longer the beginning of rows as a text. */
    int firstError() {
        for (int i = 0; i < buffer.length(); i++) {
            Matcher all = Pattern.compile(PART.pattern() + "(," + PART.pattern() + ")*").matcher(buffer.substring(0, i + 1));
            if (!all.matches() && !all.hitEnd()) {
                return i;
            }
        }
        return buffer.length();
    }

    int rows() {
        List<Row> come = new ArrayList<>();
        for (String part : buffer.split(",", -1)) {
            Matcher m = PART.matcher(part);
            argument(m.matches());
            come.add(new Row(names++, m.group(1).charAt(0) - '0', "nesw".indexOf(m.group(2)),
                    Integer.parseInt(m.group(3)), m.group(4).length()));
        }
        save();
        int many = Math.min(come.size(), 16 - now.rows.size());
        now.rows.addAll(come.subList(0, many));
        buffer = "";
        return many;
    }

    int undo() {
        state(!saved.isEmpty());
        now = saved.removeLast();
        return saved.size();
    }

    private int maskOf(Set<Integer> names) {
        int mask = 0;
        for (int r = 0; r < now.rows.size(); r++) {
            if (names.contains(now.rows.get(r).name())) {
                mask += 1 << r;
            }
        }
        return mask;
    }

    int rowOf(int r, int what) {
        index(isRow(r));
        argument(in(what, 0, 4));
        Row row = now.rows.get(r);
        int mask = 0;
        for (int p = 0; p < 5; p++) {
            mask += veilCount(p, row) == 0 ? 1 << p : 0;
        }
        return new int[] {row.owner(), row.place(), row.value(), row.secrecy(), mask}[what];
    }

    int personOf(int p, int what) {
        index(in(p, 0, 4));
        argument(in(what, 0, 7));
        List<Row> rows = seen(p, NONE, 0, 99);
        return new int[] {now.rank[p], now.home[p], now.master[p], rows.size(), maskOf(namesOf(rows)),
            now.memory.get(p).size(), now.answers[p], now.refused[p]}[what];
    }

    int veils(int asker, int r) {
        index(in(asker, 0, 4) && isRow(r));
        int mask = 0;
        for (int rule = 0; rule < 4; rule++) {
            mask += veiledBy(rule, asker, now.rows.get(r)) ? 1 << rule : 0;
        }
        return mask;
    }

    int remembered(int asker, int place) {
        index(in(asker, 0, 4));
        argument(place >= 0);
        List<Set<Integer>> questions = now.memory.get(asker);
        return place < questions.size() ? maskOf(questions.get(place)) : NONE;
    }

    private int pairsVeiled() {
        int pairs = 0;
        for (int p = 0; p < 5; p++) {
            pairs += now.rows.size() - seen(p, NONE, 0, 99).size();
        }
        return pairs;
    }

    int count(int what) {
        argument(in(what, 0, 9));
        int rules = 0;
        for (int rule = 0; rule < 4; rule++) {
            rules += now.force[rule] ? 1 << rule : 0;
        }
        return new int[] {now.rows.size(), rules, now.setting[0], now.setting[1], now.setting[2],
            Arrays.stream(now.answers).sum(), Arrays.stream(now.refused).sum(), now.givenAway,
            pairsVeiled(), saved.size()}[what];
    }

    int ifAsked(int asker, int place, int least, int greatest, int what) {
        question(asker, place, least, greatest);
        argument(in(what, 0, 3));
        List<Row> rows = seen(asker, place, least, greatest);
        return new int[] {counted(asker, rows), summed(rows), givesAway(asker, namesOf(rows)) ? 1 : 0,
            ofPlace(place, least, greatest).size()}[what];
    }

    int hides(int rule) {
        index(in(rule, 0, 3));
        int pairs = 0;
        for (int p = 0; p < 5; p++) {
            for (Row row : now.rows) {
                pairs += veiledBy(rule, p, row) && veilCount(p, row) == 1 ? 1 : 0;
            }
        }
        return pairs;
    }

    int blindest() {
        int found = 4;
        for (int p = 3; p >= 0; p--) {
            found = seen(p, NONE, 0, 99).size() <= seen(found, NONE, 0, 99).size() ? p : found;
        }
        return found;
    }

    int needed(int asker, int place) {
        index(in(asker, 0, 4) && in(place, -1, 3));
        int seen = seen(asker, place, 0, 99).size();
        int all = ofPlace(place, 0, 99).size();
        for (int c = 1; c <= 9; c++) {
            if (seen / c == all / c) {
                return c;
            }
        }
        return NONE;
    }

    double openness() {
        int pairs = 5 * now.rows.size();
        return pairs == 0 ? 1.0 : (double) (pairs - pairsVeiled()) / pairs;
    }

    long digest() {
        List<Long> list = new ArrayList<>();
        for (int what = 0; what < 10; what++) {
            list.add((long) count(what));
        }
        for (int r = 0; r < now.rows.size(); r++) {
            for (int what = 0; what < 5; what++) {
                list.add((long) rowOf(r, what));
            }
        }
        for (int p = 0; p < 5; p++) {
            for (int what = 0; what < 8; what++) {
                list.add((long) personOf(p, what));
            }
            for (Set<Integer> question : now.memory.get(p)) {
                list.add((long) maskOf(question));
            }
            for (int what = 0; what < 4; what++) {
                list.add((long) ifAsked(p, NONE, 0, 99, what));
            }
            list.add((long) needed(p, NONE));
        }
        for (int rule = 0; rule < 4; rule++) {
            list.add((long) hides(rule));
        }
        list.add((long) blindest());
        list.add(Double.doubleToLongBits(openness()));
        list.add((long) buffer.length());
        for (char c : buffer.toCharArray()) {
            list.add((long) c);
        }
        long hash = 3469;
        for (long v : list) {
            hash = 31 * hash + v;
        }
        return hash;
    }
}
