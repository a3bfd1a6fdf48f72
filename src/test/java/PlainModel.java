import java.util.ArrayDeque;
import java.util.ArrayList;
import java.util.Arrays;
import java.util.Deque;
import java.util.List;
import java.util.regex.Matcher;
import java.util.regex.Pattern;

/**
 * The document written a second time, in another way: copied lists, messages as lists of words, and
 * texts told by a pattern and by trying what could follow. RandomRunsTest compares the program with it.
 */
final class PlainModel {
    private static final int NO_SUCH = -1;
    private static final int BAD_VALUE = -2;
    private static final int NOT_POSSIBLE = -3;
    private static final int LIMIT = -4;
    private static final int BAD_TEXT = -5;
    private static final int NONE = -6;
    private static final Pattern HOIST = Pattern.compile("([0-4]):([0-9](?:[0-9]|r[1-3]){0,3})");

    private State state = new State();
    private State saved = null;
    private final Deque<State> recorded = new ArrayDeque<>();
    private String buffer = "";

    private static final class State {
        final int[][] flags = new int[10][];
        final List<List<Integer>> mast = new ArrayList<>();
        final List<int[]> book = new ArrayList<>();
        final List<List<Integer>> log = new ArrayList<>();
        int messages = 0;
        int stock = 1;
        int strength = 5;
        int from = 0;
        int side = 0;
        int pennant = 0;

        State() {
            for (int k = 0; k < 10; k++) {
                flags[k] = new int[] {k % 8, (3 * k + 1) % 8, k / 2};
            }
            for (int halyard = 0; halyard < 5; halyard++) {
                mast.add(new ArrayList<>());
            }
        }

        State copy() {
            State copy = new State();
            for (int k = 0; k < 10; k++) {
                copy.flags[k] = flags[k].clone();
            }
            copy.mast.clear();
            for (List<Integer> hoist : mast) {
                copy.mast.add(new ArrayList<>(hoist));
            }
            for (int[] entry : book) {
                copy.book.add(entry.clone());
            }
            copy.log.addAll(log);
            copy.messages = messages;
            copy.stock = stock;
            copy.strength = strength;
            copy.from = from;
            copy.side = side;
            copy.pennant = pennant;
            return copy;
        }
    }

    private void record() {
        recorded.addLast(state.copy());
        if (recorded.size() == 6) {
            recorded.removeFirst();
        }
    }

    private void change() {
        record();
        state.pennant = 0;
    }

    private static boolean in(int value, int least, int most) {
        return least <= value && value <= most;
    }

    private static long pieces(List<List<Integer>> mast, int sign) {
        return mast.stream().flatMap(List::stream).filter(s -> s == sign).count();
    }

    private static int signs(State of) {
        return of.mast.stream().mapToInt(List::size).sum();
    }

    private static boolean fits(List<List<Integer>> mast, int stock) {
        for (int sign = 0; sign <= 13; sign++) {
            if (pieces(mast, sign) > stock) {
                return false;
            }
        }
        return true;
    }

    private static int standsFor(List<Integer> hoist, int index) {
        int sign = hoist.get(index);
        return sign < 10 ? sign : standsFor(hoist, sign - 11);
    }

    private static int taken(State of, int side, int flag) {
        int[] own = of.flags[flag];
        if (own[2] > of.strength) {
            return NONE;
        }
        boolean straight = (side == 0 && of.from == 0) || (side == 1 && of.from == 1);
        int left = straight ? own[0] : own[1];
        int right = straight ? own[1] : own[0];
        for (int k = 0; k < 10; k++) {
            if (of.flags[k][0] == left && of.flags[k][1] == right) {
                return k;
            }
        }
        return NONE;
    }

    private static int read(State of, int side, List<Integer> hoist) {
        StringBuilder digits = new StringBuilder("1");
        for (int index = 0; index < hoist.size(); index++) {
            int flag = taken(of, side, standsFor(hoist, index));
            if (flag == NONE) {
                return NONE;
            }
            digits.append(flag);
        }
        for (int[] entry : of.book) {
            if (String.valueOf(entry[0]).contentEquals(digits)) {
                return entry[1];
            }
        }
        return NONE;
    }

    private static List<Integer> message(State of, int side) {
        List<Integer> words = new ArrayList<>();
        for (int halyard = 0; halyard < 5; halyard++) {
            if (!of.mast.get(halyard).isEmpty()) {
                words.add(side == 0 ? words.size() : 0, read(of, side, of.mast.get(halyard)));
            }
        }
        return words;
    }

    private static int knows(State of, int side) {
        return (int) message(of, side).stream().filter(w -> w != NONE).count();
    }

    private static boolean same(State of) {
        List<Integer> front = message(of, 0);
        return !front.isEmpty() && !front.contains(NONE) && front.equals(message(of, 1));
    }

    int paint(int flag, int hoist, int fly, int weight) {
        if (!in(flag, 0, 9)) {
            return NO_SUCH;
        }
        if (!in(hoist, 0, 7) || !in(fly, 0, 7) || !in(weight, 0, 9)) {
            return BAD_VALUE;
        }
        change();
        state.flags[flag] = new int[] {hoist, fly, weight};
        return (int) Arrays.stream(state.flags).filter(f -> f[0] == hoist && f[1] == fly).count();
    }

    int setStock(int stock) {
        if (!in(stock, 1, 3)) {
            return BAD_VALUE;
        }
        if (!fits(state.mast, stock)) {
            return NOT_POSSIBLE;
        }
        record();
        int before = state.stock;
        state.stock = stock;
        return before;
    }

    int setWind(int strength, int from) {
        if (!in(strength, 0, 9) || !in(from, 0, 1)) {
            return BAD_VALUE;
        }
        change();
        int before = state.strength;
        state.strength = strength;
        state.from = from;
        return before;
    }

    int flag(int flag, int part) {
        if (!in(flag, 0, 9)) {
            return NO_SUCH;
        }
        if (!in(part, 0, 4)) {
            return BAD_VALUE;
        }
        if (part < 3) {
            return state.flags[flag][part];
        }
        if (part == 3) {
            return state.stock - (int) pieces(state.mast, flag);
        }
        for (int k = 0; k < 10; k++) {
            if (state.flags[k][0] == state.flags[flag][1] && state.flags[k][1] == state.flags[flag][0]) {
                return k;
            }
        }
        return NONE;
    }

    int bend(int halyard, int sign) {
        if (!in(halyard, 0, 4) || !(in(sign, 0, 9) || in(sign, 11, 13))) {
            return NO_SUCH;
        }
        List<Integer> hoist = state.mast.get(halyard);
        if (sign > 10 && sign - 10 > hoist.size()) {
            return NOT_POSSIBLE;
        }
        if (hoist.size() == 4 || pieces(state.mast, sign) == state.stock) {
            return LIMIT;
        }
        change();
        hoist.add(sign);
        return hoist.size();
    }

    int unbend(int halyard) {
        if (!in(halyard, 0, 4)) {
            return NO_SUCH;
        }
        List<Integer> hoist = state.mast.get(halyard);
        if (hoist.isEmpty()) {
            return NOT_POSSIBLE;
        }
        change();
        return hoist.remove(hoist.size() - 1);
    }

    int exchange(int halyard, int other) {
        if (!in(halyard, 0, 4) || !in(other, 0, 4)) {
            return NO_SUCH;
        }
        if (halyard == other) {
            return BAD_VALUE;
        }
        change();
        java.util.Collections.swap(state.mast, halyard, other);
        return state.mast.get(halyard).size() + state.mast.get(other).size();
    }

    int lower() {
        record();
        int words = 0;
        if (state.pennant == 2) {
            List<Integer> message = message(state, state.side);
            words = message.size();
            state.log.add(message);
            if (state.log.size() > 8) {
                state.log.remove(0);
            }
            state.messages++;
        }
        state.mast.forEach(List::clear);
        state.pennant = 0;
        return words;
    }

    int sign(int halyard, int place, int part) {
        if (!in(halyard, 0, 4) || !in(place, 1, state.mast.get(halyard).size())) {
            return NO_SUCH;
        }
        int flag = standsFor(state.mast.get(halyard), place - 1);
        switch (part) {
            case 0: return state.mast.get(halyard).get(place - 1);
            case 1: return flag;
            case 2: return state.flags[flag][2] > state.strength ? 1 : 0;
            default: return BAD_VALUE;
        }
    }

    int enter(int flags, int word) {
        if (!String.valueOf(flags).matches("1[0-9]{1,4}") || !in(word, 0, 99)) {
            return BAD_VALUE;
        }
        if (state.book.size() == 12) {
            return LIMIT;
        }
        change();
        state.book.add(new int[] {flags, word});
        return state.book.size();
    }

    int strike(int entry) {
        if (!in(entry, 0, state.book.size() - 1)) {
            return NO_SUCH;
        }
        change();
        return state.book.remove(entry)[1];
    }

    int entry(int entry, int part) {
        if (!in(entry, 0, state.book.size() - 1)) {
            return NO_SUCH;
        }
        return in(part, 0, 1) ? state.book.get(entry)[part] : BAD_VALUE;
    }

    int seen(int side, int halyard, int place) {
        if (!in(side, 0, 1)) {
            return BAD_VALUE;
        }
        if (!in(halyard, 0, 4) || !in(place, 1, state.mast.get(halyard).size())) {
            return NO_SUCH;
        }
        return taken(state, side, standsFor(state.mast.get(halyard), place - 1));
    }

    int word(int side, int word) {
        if (!in(side, 0, 1)) {
            return BAD_VALUE;
        }
        List<Integer> words = message(state, side);
        return in(word, 0, words.size() - 1) ? words.get(word) : NO_SUCH;
    }

    int known(int side) {
        return in(side, 0, 1) ? knows(state, side) : BAD_VALUE;
    }

    int isSame() {
        return same(state) ? 1 : 0;
    }

    int sail(int side) {
        if (!in(side, 0, 1)) {
            return BAD_VALUE;
        }
        change();
        int before = state.side;
        state.side = side;
        return before;
    }

    int answer() {
        if (signs(state) == 0 || state.pennant == 2
                || (state.pennant == 1 && message(state, state.side).contains(NONE))) {
            return NOT_POSSIBLE;
        }
        record();
        return ++state.pennant;
    }

    int logged(int message, int part) {
        if (!in(message, 0, state.log.size() - 1)) {
            return NO_SUCH;
        }
        List<Integer> words = state.log.get(message);
        if (in(part, words.size() + 1, 5)) {
            return NO_SUCH;
        }
        if (!in(part, 0, 5)) {
            return BAD_VALUE;
        }
        return part == 0 ? words.size() : words.get(part - 1);
    }

    int total(int what) {
        int hoists = (int) state.mast.stream().filter(h -> !h.isEmpty()).count();
        int[] totals = {state.strength, state.from, state.stock, signs(state), hoists, state.book.size(),
            state.side, state.pennant, state.log.size(), state.messages};
        return in(what, 0, 9) ? totals[what] : BAD_VALUE;
    }

    int leastWind(int side) {
        if (!in(side, 0, 1)) {
            return BAD_VALUE;
        }
        State other = state.copy();
        for (other.strength = 0; other.strength < 10; other.strength++) {
            if (signs(other) > 0 && !message(other, side).contains(NONE)) {
                return other.strength;
            }
        }
        return NONE;
    }

    int ifTurned(int side) {
        if (!in(side, 0, 1)) {
            return BAD_VALUE;
        }
        State other = state.copy();
        other.from = 1 - other.from;
        return knows(other, side);
    }

    int mendingExchange() {
        if (same(state)) {
            return 0;
        }
        for (int number = 1; number < 50; number++) {
            if (number / 10 < number % 10 && number % 10 < 5) {
                State other = state.copy();
                java.util.Collections.swap(other.mast, number / 10, number % 10);
                if (same(other)) {
                    return number;
                }
            }
        }
        return NONE;
    }

    int bestEntry(int word) {
        if (!in(word, 0, 99)) {
            return BAD_VALUE;
        }
        for (int length = 1; length <= 4; length++) {
            for (int entry = 0; entry < state.book.size(); entry++) {
                String flags = String.valueOf(state.book.get(entry)[0]).substring(1);
                if (flags.length() == length && state.book.get(entry)[1] == word
                        && flags.chars().allMatch(c -> taken(state, 0, c - '0') == c - '0')) {
                    return entry;
                }
            }
        }
        return NONE;
    }

    int append(int code) {
        if (!in(code, 33, 126)) {
            return BAD_VALUE;
        }
        if (buffer.length() == 50) {
            return LIMIT;
        }
        buffer += (char) code;
        return buffer.length();
    }

    int clearText() {
        int length = buffer.length();
        buffer = "";
        return length;
    }

    /** The hoists of a text, null if it is not one. */
    private static List<List<Integer>> hoists(String text) {
        List<List<Integer>> mast = new State().mast;
        int before = -1;
        for (String part : text.split(",", -1)) {
            Matcher matcher = HOIST.matcher(part);
            if (!matcher.matches()) {
                return null;
            }
            int halyard = Integer.parseInt(matcher.group(1));
            if (halyard <= before) {
                return null;
            }
            before = halyard;
            String signs = matcher.group(2).replaceAll("([0-9]|r[0-9])", "$1 ");
            signs = signs.replaceAll("r ", "r");
            for (String sign : signs.trim().split(" ")) {
                List<Integer> hoist = mast.get(halyard);
                if (sign.startsWith("r")) {
                    int pennant = Integer.parseInt(sign.substring(1));
                    if (pennant > hoist.size()) {
                        return null;
                    }
                    hoist.add(10 + pennant);
                } else {
                    hoist.add(Integer.parseInt(sign));
                }
            }
        }
        return mast;
    }

    /** Each beginning of a text can be ended by one of these. */
    private static boolean isBeginning(String beginning) {
        for (String end : new String[] {"", ":0", "0", "1", "4:0"}) {
            if (hoists(beginning + end) != null) {
                return true;
            }
        }
        return false;
    }

    int errorPosition() {
        for (int index = 0; index < buffer.length(); index++) {
            if (!isBeginning(buffer.substring(0, index + 1))) {
                return index;
            }
        }
        return hoists(buffer) == null ? buffer.length() : NONE;
    }

    int hoist() {
        List<List<Integer>> mast = hoists(buffer);
        if (mast == null) {
            return BAD_TEXT;
        }
        if (!fits(mast, state.stock)) {
            return LIMIT;
        }
        change();
        state.mast.clear();
        state.mast.addAll(mast);
        buffer = "";
        return signs(state);
    }

    int undo() {
        if (recorded.isEmpty()) {
            return NOT_POSSIBLE;
        }
        state = recorded.removeLast();
        return recorded.size();
    }

    int save() {
        saved = state.copy();
        return signs(state);
    }

    int restore() {
        if (saved == null) {
            return NOT_POSSIBLE;
        }
        record();
        state = saved.copy();
        return signs(state);
    }
}
