import java.util.ArrayList;
import java.util.Arrays;
import java.util.List;

/**
 * A second reading of the document, as unlike the program as it can be: objects of KINDS, true Java arrays whose
 * own exceptions are the host's refusals, texts cut in pieces anew each time they are asked. It is slow, and
 * that is no matter: ModelTest holds the program against it.
 */
final class Model {
    static class Citizen {
        int number;
        int bribe;

        boolean isRead(State s, int yes) {
            return yes != 0;
        }

        int silence(int v) {
            return v;
        }

        int time(State s, int v) {
            return v;
        }
    }

    static class Noble extends Citizen {
        @Override boolean isRead(State s, int yes) {
            return true;
        }

        @Override int silence(int v) {
            return 2 * super.silence(v);
        }

        @Override int time(State s, int v) {
            return super.time(s, v) + number;
        }
    }

    static class Poor extends Citizen {
        @Override boolean isRead(State s, int yes) {
            return super.isRead(s, yes) && bribe > 0;
        }

        @Override int silence(int v) {
            return super.silence(v) / 2;
        }
    }

    static final class Heir extends Noble {
        @Override boolean isRead(State s, int yes) {
            return s.sitting % 10 != number;
        }

        @Override int silence(int v) {
            return super.silence(v) + number;
        }
    }

    static final class Orphan extends Poor {
        @Override boolean isRead(State s, int yes) {
            return super.isRead(s, yes) || bribe >= 10 * number;
        }

        @Override int silence(int v) {
            return super.silence(v) + 2;
        }

        @Override int time(State s, int v) {
            return s.sitting % 2 != 0 ? 0 : super.time(s, v);
        }
    }

    static final class Dead extends Citizen {
        @Override boolean isRead(State s, int yes) {
            return false;
        }

        @Override int silence(int v) {
            return 1;
        }
    }

    static final List<Class<? extends Citizen>> KINDS =
        List.of(Citizen.class, Noble.class, Poor.class, Heir.class, Orphan.class, Dead.class);

    static Citizen of(int kind, int number, int bribe) {
        Citizen c;
        switch (kind) {
            case 0: c = new Citizen(); break;
            case 1: c = new Noble(); break;
            case 2: c = new Poor(); break;
            case 3: c = new Heir(); break;
            case 4: c = new Orphan(); break;
            default: c = new Dead(); break;
        }
        c.number = number;
        c.bribe = bribe;
        return c;
    }

    static int kindOf(Citizen c) {
        return KINDS.indexOf(c.getClass());
    }

    static final class Item {
        int takes;
        int soFar;
        Integer done;
    }

    static final class State {
        int sitting = 0;
        int length = 60;
        int rule = 0;
        List<Citizen> citizens = new ArrayList<>();
        List<Item> items = new ArrayList<>();

        State copy() {
            State s = new State();
            s.sitting = sitting;
            s.length = length;
            s.rule = rule;
            for (Citizen c : citizens) {
                s.citizens.add(of(kindOf(c), c.number, c.bribe));
            }
            for (Item i : items) {
                Item j = new Item();
                j.takes = i.takes;
                j.soFar = i.soFar;
                j.done = i.done;
                s.items.add(j);
            }
            return s;
        }
    }

    private State state = new State();
    private State image = null;
    private final List<List<List<String>>> texts = new ArrayList<>();
    private final StringBuilder tape = new StringBuilder();
    private final Object[] sheets = new Object[4];

    Model() {
        texts.add(parts("reads bribe ; stills 3 ; names 1 ;"));
    }

    // ---- texts

    private static final List<String> NAMES = List.of("number", "bribe", "sitting", "read", "rank", "asked");
    private static final List<String> KEYS = List.of("reads", "stills", "names", "or", "and", "not");

    /** From a place on, the longest token there; null where none begins. */
    private static String tokenAt(String text, int place) {
        String rest = text.substring(place);
        int n = 0;
        while (n < rest.length() && rest.charAt(n) >= 'a' && rest.charAt(n) <= 'z') {
            n++;
        }
        if (n > 0) {
            String word = rest.substring(0, n);
            return NAMES.contains(word) || KEYS.contains(word) ? word : null;
        }
        while (n < rest.length() && rest.charAt(n) >= '0' && rest.charAt(n) <= '9') {
            n++;
        }
        if (n > 0) {
            return n > 4 ? null : rest.substring(0, n);
        }
        return "();+-*<=".indexOf(rest.charAt(0)) >= 0 ? rest.substring(0, 1) : null;
    }

    private static boolean isOne(String token) {
        return NAMES.contains(token) || Character.isDigit(token.charAt(0));
    }

    /** The place of the FAULT, or -1: no grammar is called here, what is open is kept on one list. */
    static int faultOf(String text) {
        List<String> keys = List.of("reads", "stills", "names");
        int part = 0;
        boolean keyDue = true;
        boolean oneDue = false;
        boolean notMayStand = false;
        List<String> open = new ArrayList<>();
        List<Boolean> compared = new ArrayList<>();
        int place = 0;
        while (true) {
            while (place < text.length() && (text.charAt(place) == ' ' || text.charAt(place) == '\n')) {
                place++;
            }
            if (place == text.length()) {
                return part == 3 ? -1 : place;
            }
            String token = tokenAt(text, place);
            if (token == null || part == 3) {
                return place;
            }
            if (keyDue) {
                if (!token.equals(keys.get(part))) {
                    return place;
                }
                keyDue = false;
                oneDue = true;
                notMayStand = true;
                compared.clear();
                compared.add(false);
            } else if (oneDue) {
                boolean opens = token.equals("(") || token.equals("-") || token.equals("not") && notMayStand;
                if (!opens && !isOne(token) || opens && open.size() == 5) {
                    return place;
                }
                if (opens) {
                    open.add(token);
                    notMayStand = token.equals("(") || token.equals("not");
                    if (token.equals("(")) {
                        compared.add(false);
                    }
                } else {
                    oneDue = false;
                    close(open, "-");
                }
            } else if (token.equals(";")) {
                close(open, "not");
                if (!open.isEmpty()) {
                    return place;
                }
                part++;
                keyDue = true;
            } else if (token.equals(")")) {
                close(open, "not");
                if (open.isEmpty()) {
                    return place;
                }
                open.remove(open.size() - 1);
                compared.remove(compared.size() - 1);
                close(open, "-");
            } else if ("+-*".contains(token)) {
                oneDue = true;
                notMayStand = false;
            } else if ("<=".contains(token)) {
                if (compared.get(compared.size() - 1)) {
                    return place;
                }
                compared.set(compared.size() - 1, true);
                oneDue = true;
                notMayStand = false;
            } else if (token.equals("and") || token.equals("or")) {
                close(open, "not");
                compared.set(compared.size() - 1, false);
                oneDue = true;
                notMayStand = true;
            } else {
                return place;
            }
            place += token.length();
        }
    }

    private static void close(List<String> open, String what) {
        while (!open.isEmpty() && open.get(open.size() - 1).equals(what)) {
            open.remove(open.size() - 1);
        }
    }

    private static List<List<String>> parts(String text) {
        List<List<String>> parts = new ArrayList<>();
        List<String> part = new ArrayList<>();
        for (int place = 0; place < text.length();) {
            if (text.charAt(place) == ' ' || text.charAt(place) == '\n') {
                place++;
                continue;
            }
            String token = tokenAt(text, place);
            place += token.length();
            if (token.equals(";")) {
                parts.add(new ArrayList<>(part.subList(1, part.size())));
                part.clear();
            } else {
                part.add(token);
            }
        }
        return parts;
    }

    private static boolean isBinary(List<String> e, int i) {
        return i > 0 && (e.get(i - 1).equals(")") || isOne(e.get(i - 1)));
    }

    /** The last of some signs that stands outside all brackets; -1. */
    private static int lastOf(List<String> e, String... signs) {
        int depth = 0;
        for (int i = e.size() - 1; i >= 0; i--) {
            String t = e.get(i);
            depth += t.equals(")") ? 1 : t.equals("(") ? -1 : 0;
            if (depth == 0 && Arrays.asList(signs).contains(t) && isBinary(e, i)) {
                return i;
            }
        }
        return -1;
    }

    private static int value(List<String> e, int[] names) {
        String[][] levels = {{"or"}, {"and"}, {"<", "="}, {"+", "-"}, {"*"}};
        for (int level = 0; level < levels.length; level++) {
            if (level == 2 && e.get(0).equals("not")) {
                return value(e.subList(1, e.size()), names) == 0 ? 1 : 0;
            }
            int i = lastOf(e, levels[level]);
            if (i >= 0) {
                int a = value(e.subList(0, i), names);
                int b = value(e.subList(i + 1, e.size()), names);
                switch (e.get(i)) {
                    case "or": return a != 0 || b != 0 ? 1 : 0;
                    case "and": return a != 0 && b != 0 ? 1 : 0;
                    case "<": return a < b ? 1 : 0;
                    case "=": return a == b ? 1 : 0;
                    case "+": return (int) ((long) a + b);
                    case "-": return (int) ((long) a - b);
                    default: return (int) ((long) a * b);
                }
            }
        }
        if (e.get(0).equals("-")) {
            return (int) -(long) value(e.subList(1, e.size()), names);
        }
        if (e.get(0).equals("(")) {
            return value(e.subList(1, e.size() - 1), names);
        }
        return NAMES.contains(e.get(0)) ? names[NAMES.indexOf(e.get(0))] : Integer.parseInt(e.get(0));
    }

    private int asked(State s, int part, int rank, List<Integer> read) {
        int ahead = 0;
        for (int r : read) {
            ahead += r < rank ? 1 : 0;
        }
        Citizen c = s.citizens.get(rank);
        int[] names = {c.number, c.bribe, s.sitting, ahead, rank, s.citizens.size()};
        int v = value(texts.get(s.rule).get(part), names);
        return part == 0 ? v : v < 0 ? 0 : v > 60 ? 60 : v;
    }

    // ---- lists

    private List<Integer> theList(State s) {
        List<Integer> read = new ArrayList<>();
        for (int i = 0; i < s.citizens.size(); i++) {
            if (s.citizens.get(i).isRead(s, asked(s, 0, i, read))) {
                read.add(i);
            }
        }
        return read;
    }

    private static List<Integer> listOf(int bits) {
        List<Integer> read = new ArrayList<>();
        for (int i = 0; i < 8; i++) {
            if ((bits & 1 << i) != 0) {
                read.add(i);
            }
        }
        return read;
    }

    private static int bitsOf(List<Integer> read) {
        int bits = 0;
        for (int i : read) {
            bits += 1 << i;
        }
        return bits;
    }

    private int silence(State s, int i, List<Integer> read) {
        return s.citizens.get(i).silence(asked(s, 1, i, read));
    }

    private int time(State s, int i, List<Integer> read) {
        return s.citizens.get(i).time(s, asked(s, 2, i, read));
    }

    private int gone(State s, List<Integer> read) {
        int sum = 0;
        for (int i = 0; i < s.citizens.size(); i++) {
            sum += read.contains(i) ? time(s, i, read) : silence(s, i, read);
        }
        return sum;
    }

    private int gone(State s) {
        return gone(s, theList(s));
    }

    private int lists() {
        return 1 << state.citizens.size();
    }

    /** A SITTING, minute by minute, with items in some order: how many minutes nothing was done. */
    private int hold(State s, List<Integer> order) {
        int left = s.length - gone(s);
        int idle = 0;
        for (int minute = 0; minute < left; minute++) {
            Item on = null;
            for (int i : order) {
                if (on == null && s.items.get(i).done == null) {
                    on = s.items.get(i);
                }
            }
            if (on == null) {
                idle++;
            } else if (++on.soFar == on.takes) {
                on.done = s.sitting;
            }
        }
        s.sitting++;
        return idle;
    }

    private static List<Integer> inTurn(State s) {
        List<Integer> order = new ArrayList<>();
        for (int i = 0; i < s.items.size(); i++) {
            order.add(i);
        }
        return order;
    }

    private static int none(Integer number) {
        return number == null ? -1 : number;
    }

    private static int done(State s) {
        int done = 0;
        for (Item i : s.items) {
            done += i.done == null ? 0 : 1;
        }
        return done;
    }

    private boolean noCitizen(int i) {
        return i < 0 || i >= state.citizens.size();
    }

    private boolean noItem(int i) {
        return i < 0 || i >= state.items.size();
    }

    // ---- the calls

    int set(int what, int of, int v) {
        int[] most = {999, 600, 9, 99};
        if (what < 0 || what > 3 || what > 1 && noCitizen(of) || v < 0 || v > most[what]) {
            return -2;
        }
        int was = told(of, what);
        switch (what) {
            case 0: state.sitting = v; break;
            case 1: state.length = v; break;
            case 2: state.citizens.get(of).number = v; break;
            default: state.citizens.get(of).bribe = v; break;
        }
        return was;
    }

    int citizen(int kind, int number) {
        if (kind < 0 || kind > 5 || number < 0 || number > 9) {
            return -2;
        }
        if (state.citizens.size() == 8) {
            return -4;
        }
        state.citizens.add(of(kind, number, 0));
        return state.citizens.size() - 1;
    }

    int business(int minutes) {
        if (minutes < 1 || minutes > 999) {
            return -2;
        }
        if (state.items.size() == 6) {
            return -4;
        }
        Item i = new Item();
        i.takes = minutes;
        state.items.add(i);
        return state.items.size() - 1;
    }

    int told(int of, int what) {
        if (what < 0 || what > 10 || what > 1 && what < 8 && noCitizen(of) || what > 7 && noItem(of)) {
            return -2;
        }
        switch (what) {
            case 0: return state.sitting;
            case 1: return state.length;
            case 2: return state.citizens.get(of).number;
            case 3: return state.citizens.get(of).bribe;
            case 4: return kindOf(state.citizens.get(of));
            case 5: return theList(state).contains(of) ? 1 : 0;
            case 6: return silence(state, of, theList(state));
            case 7: return time(state, of, theList(state));
            case 8: return state.items.get(of).takes;
            case 9: return state.items.get(of).soFar;
            default: return none(state.items.get(of).done);
        }
    }

    int feed(int letter) {
        if (letter < 0 || letter > 255) {
            return -2;
        }
        if (tape.length() == 160) {
            return -4;
        }
        tape.append((char) letter);
        return tape.length();
    }

    int text() {
        if (texts.size() == 6) {
            return -4;
        }
        String text = tape.toString();
        tape.setLength(0);
        int fault = faultOf(text);
        if (fault >= 0) {
            return -100 - fault;
        }
        texts.add(parts(text));
        return texts.size() - 1;
    }

    int force(int text) {
        if (text < 0 || text >= texts.size()) {
            return -2;
        }
        int was = state.rule;
        state.rule = text;
        return was;
    }

    int list(int what) {
        List<Integer> read = theList(state);
        int silence = 0;
        int time = 0;
        for (int i = 0; i < state.citizens.size(); i++) {
            silence += read.contains(i) ? 0 : silence(state, i, read);
            time += read.contains(i) ? time(state, i, read) : 0;
        }
        int left = state.length - silence - time;
        int[] answers = {bitsOf(read), read.size(), silence, time, left < 0 ? 0 : left};
        return what < 0 || what > 4 ? -2 : answers[what];
    }

    int by(int some) {
        return some < 0 || some >= lists() ? -2 : gone(state, listOf(some));
    }

    int sit() {
        if (state.sitting == 999) {
            return -3;
        }
        int before = done(state);
        hold(state, inTurn(state));
        return done(state) - before;
    }

    int run(int n, int what) {
        if (n < 0 || n > 40 || what != 0 && what != 1 && (what < 10 || noItem(what - 10))) {
            return -2;
        }
        State s = state.copy();
        int over = 0;
        for (int i = 0; i < n; i++) {
            over += hold(s, inTurn(s));
        }
        return what == 0 ? done(s) : what == 1 ? over : none(s.items.get(what - 10).done);
    }

    int shortest(int what) {
        if (what < 0 || what > 1) {
            return -2;
        }
        int best = lists() - 1;
        for (int bits = lists() - 1; bits >= 0; bits--) {
            if (gone(state, listOf(bits)) <= gone(state, listOf(best))) {
                best = bits;
            }
        }
        return what == 0 ? best : gone(state, listOf(best));
    }

    int fewest(int k) {
        if (k < 0 || k > 999) {
            return -2;
        }
        for (int names = 8; names >= 0; names--) {
            for (int bits = 0; bits < lists(); bits++) {
                if (listOf(bits).size() == names && gone(state, listOf(bits)) <= k) {
                    return bits;
                }
            }
        }
        return -1;
    }

    int soonest(int of, int what) {
        if (noItem(of) || what < 0 || what > 1) {
            return -2;
        }
        int now = run(40, 10 + of);
        if (state.items.get(of).done != null) {
            return what == 0 ? -1 : now;
        }
        int never = 1000000;
        int best = now == -1 ? never : now;
        int who = -1;
        for (int i = 0; i < state.citizens.size(); i++) {
            int was = set(3, i, 99);
            int then = run(40, 10 + of);
            set(3, i, was);
            if (then != -1 && then < best) {
                best = then;
                who = i;
            }
        }
        return what == 0 ? who : best == never ? -1 : best;
    }

    int bribe(int citizen) {
        if (noCitizen(citizen)) {
            return -2;
        }
        for (int b = 0; b < 100; b++) {
            State s = state.copy();
            s.citizens.get(citizen).bribe = b;
            if (theList(s).contains(citizen)) {
                return b;
            }
        }
        return -1;
    }

    int order(int what) {
        if (what < 0 || what > 1) {
            return -2;
        }
        List<Integer> waiting = inTurn(state);
        waiting.removeIf(i -> state.items.get(i).done != null);
        int[] left = new int[40];
        State s = state.copy();
        for (int t = 0; t < 40; t++) {
            left[t] = Math.max(0, s.length - gone(s));
            s.sitting++;
        }
        int[] best = {0, waiting.isEmpty() ? 0 : Integer.MAX_VALUE};
        if (!waiting.isEmpty()) {
            tryOrders(new ArrayList<>(), waiting, left, best);
        }
        return best[what];
    }

    private void tryOrders(List<Integer> order, List<Integer> waiting, int[] left, int[] best) {
        if (order.size() == waiting.size()) {
            int[] rest = new int[6];
            int[] at = new int[6];
            int digits = 0;
            for (int i : order) {
                rest[i] = state.items.get(i).takes - state.items.get(i).soFar;
                at[i] = state.sitting + 40;
                digits = digits * 10 + i + 1;
            }
            for (int t = 0; t < 40; t++) {
                int minutes = left[t];
                for (int i : order) {
                    int on = Math.min(minutes, rest[i]);
                    if (rest[i] > 0 && on == rest[i]) {
                        at[i] = state.sitting + t;
                    }
                    rest[i] -= on;
                    minutes -= on;
                }
            }
            int sum = 0;
            for (int i : order) {
                sum += at[i];
            }
            if (sum < best[1]) {
                best[0] = digits;
                best[1] = sum;
            }
            return;
        }
        for (int i : waiting) {
            if (!order.contains(i)) {
                order.add(i);
                tryOrders(order, waiting, left, best);
                order.remove((Integer) i);
            }
        }
    }

    int turned(int what) {
        if (what < 0 || what > 1) {
            return -2;
        }
        int best = -1;
        int least = -1;
        int list = bitsOf(theList(state));
        for (int i = state.citizens.size() - 1; i >= 0; i--) {
            int then = gone(state, listOf((list & 1 << i) != 0 ? list - (1 << i) : list + (1 << i)));
            if (best == -1 || then <= least) {
                best = i;
                least = then;
            }
        }
        return what == 0 ? best : least;
    }

    private static int sortOf(Object row) {
        return row instanceof byte[] ? 0 : row instanceof short[] ? 1 : 2;
    }

    private static int sizeOf(Object row) {
        return java.lang.reflect.Array.getLength(row);
    }

    private static int at(Object row, int i) {
        return java.lang.reflect.Array.getInt(row, i);
    }

    int tells(int sheet, int what) {
        boolean all = what >= 0 && what <= 4;
        if (sheet < 0 || sheet > 3 || !all && (what < 10 || what > 49 || noCitizen(what % 10))) {
            return -2;
        }
        if (sheets[sheet] == null) {
            return -11;
        }
        if (sizeOf(sheets[sheet]) != 1) {
            return -2;
        }
        int minutes = at(sheets[sheet], 0);
        return all ? tellsOfAll(minutes, what) : tellsOfOne(minutes, what / 10, what % 10);
    }

    private int tellsOfAll(int minutes, int what) {
        List<Integer> ways = new ArrayList<>();
        for (int bits = 0; bits < lists(); bits++) {
            if (gone(state, listOf(bits)) == minutes) {
                ways.add(bits);
            }
        }
        int byAll = 0;
        int byNone = 0;
        for (int i = 0; i < state.citizens.size(); i++) {
            int with = 0;
            for (int way : ways) {
                with += listOf(way).contains(i) ? 1 : 0;
            }
            byAll += !ways.isEmpty() && with == ways.size() ? 1 << i : 0;
            byNone += !ways.isEmpty() && with == 0 ? 1 << i : 0;
        }
        int likely = 0;
        for (int t = 0; t < texts.size(); t++) {
            State s = state.copy();
            s.rule = t;
            likely += gone(s) == minutes ? 1 << t : 0;
        }
        int[] answers = {ways.size(), ways.isEmpty() ? -1 : ways.get(0), byAll, byNone, likely};
        return answers[what];
    }

    private int tellsOfOne(int minutes, int tens, int i) {
        int[] tries = {0, 6, 10, 100, 100};
        List<Integer> fit = new ArrayList<>();
        for (int v = 0; v < tries[tens]; v++) {
            State s = state.copy();
            Citizen c = s.citizens.get(i);
            s.citizens.set(i, of(tens == 1 ? v : kindOf(c), tens == 2 ? v : c.number, tens > 2 ? v : c.bribe));
            if (gone(s) == minutes) {
                fit.add(v);
            }
        }
        return tens < 3 ? bitsOf(fit.stream().toList()) : tens == 3 ? fit.size() : fit.isEmpty() ? -1 : fit.get(0);
    }

    int film(int sheet) {
        if (sheet < 0 || sheet > 3) {
            return -2;
        }
        sheets[sheet] = new int[] {gone(state)};
        return gone(state);
    }

    private State drawnState(int seed) {
        State s = state.copy();
        int z = seed;
        for (Citizen c : s.citizens) {
            z = (int) ((long) z * 1103515245L + 12345L);
            c.bribe = (int) ((z & 0xFFFFFFFFL) / 512 % 100);
        }
        return s;
    }

    int drawn(int seed) {
        return theList(drawnState(seed)).size();
    }

    long chance(int seed, int m, int part) {
        if (m < 1 || m > 20 || part < 0 || part > 1) {
            return -4611686018427387904L;
        }
        int fits = 0;
        for (int i = 0; i < m; i++) {
            fits += gone(drawnState(seed + i)) <= state.length ? 1 : 0;
        }
        int gcd = java.math.BigInteger.valueOf(fits).gcd(java.math.BigInteger.valueOf(m)).intValue();
        return (part == 0 ? fits : m) / gcd;
    }

    int image() {
        image = state.copy();
        return state.citizens.size();
    }

    int back() {
        if (image == null) {
            return -3;
        }
        state = image.copy();
        return state.citizens.size();
    }

    int count(int what) {
        int[] answers =
            {state.citizens.size(), state.items.size(), done(state), texts.size(), tape.length(), state.rule};
        return what < 0 || what > 5 ? -2 : answers[what];
    }

    // ---- the host: what the machine itself refuses

    int sheet(int sheet, int sort, int n) {
        if (sheet < 0 || sheet > 3 || sort < -1 || sort > 2 || sort >= 0 && n > 40) {
            return -2;
        }
        try {
            sheets[sheet] = sort == -1 ? null : sort == 0 ? new byte[n] : sort == 1 ? new short[n] : new int[n];
            return 1;
        } catch (NegativeArraySizeException e) {
            return -14;
        }
    }

    int cell(int sheet, int i, int v) {
        if (sheet < 0 || sheet > 3) {
            return -2;
        }
        try {
            Object row = sheets[sheet];
            if (row instanceof byte[]) {
                ((byte[]) row)[i] = (byte) v;
            } else if (row instanceof short[]) {
                ((short[]) row)[i] = (short) v;
            } else {
                ((int[]) row)[i] = v;
            }
            return 1;
        } catch (NullPointerException e) {
            return -11;
        } catch (ArrayIndexOutOfBoundsException e) {
            return -12;
        }
    }

    int copy(int sheet, int i, int other, int j, int n) {
        if (sheet < 0 || sheet > 3 || other < 0 || other > 3) {
            return -2;
        }
        try {
            System.arraycopy(sheets[sheet], i, sheets[other], j, n);
            return n;
        } catch (NullPointerException e) {
            return -11;
        } catch (ArrayStoreException e) {
            return -13;
        } catch (IndexOutOfBoundsException e) {
            return -12;
        }
    }

    int citizens(int sheet, int sort, int from, int n) {
        if (sheet < 0 || sheet > 3 || sort < 0 || sort > 2 || n < 0 || n > 8) {
            return -2;
        }
        if (sheets[sheet] == null) {
            return -11;
        }
        if (sortOf(sheets[sheet]) != sort) {
            return -13;
        }
        try {
            int came = 0;
            for (int k = 0; k < n; k++) {
                int kind = at(sheets[sheet], from + 2 * k);
                int number = at(sheets[sheet], from + 2 * k + 1);
                came += citizen(kind, number) >= 0 ? 1 : 0;
            }
            return came;
        } catch (ArrayIndexOutOfBoundsException e) {
            return -12;
        }
    }

    int taken(int citizen, int k) {
        if (k < 0 || k > 5) {
            return -2;
        }
        if (noCitizen(citizen)) {
            return -11;
        }
        try {
            return KINDS.get(k).cast(state.citizens.get(citizen)).number;
        } catch (ClassCastException e) {
            return -13;
        }
    }
}
