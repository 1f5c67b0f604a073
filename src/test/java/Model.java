import java.util.ArrayDeque;
import java.util.ArrayList;
import java.util.Arrays;
import java.util.Deque;
import java.util.HashMap;
import java.util.HashSet;
import java.util.LinkedHashMap;
import java.util.List;
import java.util.Map;
import java.util.Set;
import java.util.TreeSet;
import java.util.regex.Matcher;
import java.util.regex.Pattern;

/**
 * The document once more, in another way: fields as characters of a text, sets and maps of texts,
 * recursion. It is slow and plain, so that it is easy to compare with the document's words.
 */
final class Model {
    static final int INVALID = -1001, IMPOSSIBLE = -1002, LIMIT = -1003, LARGE = -1004, MISSING = -1005;

    private static final class State {
        final int w;
        final int h;
        final String fields;

        State(int w, int h, String fields) {
            this.w = w;
            this.h = h;
            this.fields = fields;
        }
    }

    private State now = new State(3, 3, "000000000");
    private final Deque<State> history = new ArrayDeque<>();
    private final Map<String, Integer> kept = new LinkedHashMap<>();
    private int hits = 0;
    private String text = "";

    // helpers

    private boolean isField(int f) {
        return f >= 0 && f < now.w * now.h;
    }

    private static boolean isSide(int s) {
        return s == 1 || s == 2;
    }

    private static int times(String fields, int what) {
        int n = 0;
        for (char c : fields.toCharArray()) {
            if (c - '0' == what) {
                n++;
            }
        }
        return n;
    }

    private static String put(String fields, int f, int what) {
        return fields.substring(0, f) + what + fields.substring(f + 1);
    }

    private void change(State after) {
        history.addLast(now);
        if (history.size() > 8) {
            history.removeFirst();
        }
        now = after;
    }

    private boolean sees(String fields, int a, int b) {
        int ax = a % now.w, ay = a / now.w, bx = b % now.w, by = b / now.w;
        int dx = bx - ax, dy = by - ay;
        if (a == b || (dx != 0 && dy != 0 && Math.abs(dx) != Math.abs(dy))) {
            return false;
        }
        int steps = Math.max(Math.abs(dx), Math.abs(dy));
        for (int i = 1; i <= steps; i++) {
            int x = ax + i * dx / steps, y = ay + i * dy / steps;
            if (fields.charAt(now.w * y + x) != '0') {
                return false;
            }
        }
        return true;
    }

    private List<int[]> allMoves(String fields, int side) {
        List<int[]> list = new ArrayList<>();
        int n = fields.length();
        for (int from = 0; from < n; from++) {
            if (fields.charAt(from) - '0' != side) {
                continue;
            }
            for (int to = 0; to < n; to++) {
                if (!sees(fields, from, to)) {
                    continue;
                }
                String moved = put(put(fields, from, 0), to, side);
                for (int burnt = 0; burnt < n; burnt++) {
                    if (sees(moved, to, burnt)) {
                        list.add(new int[] {from, to, burnt});
                    }
                }
            }
        }
        return list;
    }

    private static String play(String fields, int side, int[] m) {
        return put(put(put(fields, m[0], 0), m[1], side), m[2], 3);
    }

    private static int other(int side) {
        return side == 1 ? 2 : 1;
    }

    /** The reachable positions, each as the side and the fields; null if there are too many. */
    private Set<String> reach(String fields, int side, boolean alternate) {
        Set<String> seen = new HashSet<>();
        return reach(fields, side, alternate, seen) ? seen : null;
    }

    private boolean reach(String fields, int side, boolean alternate, Set<String> seen) {
        if (!seen.add(side + fields)) {
            return true;
        }
        if (seen.size() > 1500) {
            return false;
        }
        for (int[] m : allMoves(fields, side)) {
            if (!reach(play(fields, side, m), alternate ? other(side) : side, alternate, seen)) {
                return false;
            }
        }
        return true;
    }

    private boolean winning(String fields, int side, Map<String, Boolean> known) {
        Boolean before = known.get(side + fields);
        if (before != null) {
            return before;
        }
        boolean wins = false;
        for (int[] m : allMoves(fields, side)) {
            if (!winning(play(fields, side, m), other(side), known)) {
                wins = true;
            }
        }
        known.put(side + fields, wins);
        return wins;
    }

    private int plies(String fields, int side, Map<String, Boolean> known, Map<String, Integer> plies) {
        Integer before = plies.get(side + fields);
        if (before != null) {
            return before;
        }
        boolean wins = winning(fields, side, known);
        TreeSet<Integer> choices = new TreeSet<>();
        for (int[] m : allMoves(fields, side)) {
            String after = play(fields, side, m);
            if (winning(after, other(side), known) != wins) {
                choices.add(1 + plies(after, other(side), known, plies));
            }
        }
        int answer = choices.isEmpty() ? 0 : wins ? choices.first() : choices.last();
        plies.put(side + fields, answer);
        return answer;
    }

    private int mostMoves(String fields, int side, Map<String, Integer> known) {
        Integer before = known.get(fields);
        if (before != null) {
            return before;
        }
        int most = 0;
        for (int[] m : allMoves(fields, side)) {
            most = Math.max(most, 1 + mostMoves(play(fields, side, m), side, known));
        }
        known.put(fields, most);
        return most;
    }

    private int outcomeFrom(String fields) {
        if (reach(fields, 1, true) == null || reach(fields, 2, true) == null) {
            return LARGE;
        }
        Map<String, Boolean> known = new HashMap<>();
        boolean l = winning(fields, 1, known), r = winning(fields, 2, known);
        return l && !r ? 0 : !l && r ? 1 : l ? 2 : 3;
    }

    /** The number of each field's region, or -1. */
    private int[] numbers() {
        int n = now.w * now.h;
        int[] number = new int[n];
        Arrays.fill(number, -1);
        int next = 0;
        for (int f = 0; f < n; f++) {
            if (number[f] < 0 && now.fields.charAt(f) != '3') {
                number[f] = next;
                boolean grew = true;
                while (grew) {
                    grew = false;
                    for (int a = 0; a < n; a++) {
                        for (int b = 0; b < n; b++) {
                            boolean near = Math.abs(a % now.w - b % now.w) <= 1
                                    && Math.abs(a / now.w - b / now.w) <= 1;
                            if (near && number[a] == next && number[b] < 0 && now.fields.charAt(b) != '3') {
                                number[b] = next;
                                grew = true;
                            }
                        }
                    }
                }
                next++;
            }
        }
        return number;
    }

    private String alone(int region) {
        int[] number = numbers();
        String fields = now.fields;
        for (int f = 0; f < number.length; f++) {
            if (number[f] != region) {
                fields = put(fields, f, 3);
            }
        }
        return fields;
    }

    private static int kind(String alone) {
        return (times(alone, 1) > 0 ? 1 : 0) + (times(alone, 2) > 0 ? 2 : 0);
    }

    private int ask(int region) {
        String alone = alone(region);
        int kind = kind(alone);
        if (kind == 0) {
            return 0;
        }
        if (kept.containsKey(alone)) {
            hits++;
            return kept.get(alone);
        }
        if (reach(alone, kind, false) == null) {
            return LARGE;
        }
        int v = mostMoves(alone, kind, new HashMap<>());
        if (kept.size() == 40) {
            kept.clear();
        }
        kept.put(alone, v);
        return v;
    }

    // the face

    int reset(int w, int h) {
        if (w < 1 || w > 5 || h < 1 || h > 5 || w * h > 15) {
            return INVALID;
        }
        int answer = 10 * now.w + now.h;
        change(new State(w, h, "0".repeat(w * h)));
        kept.clear();
        return answer;
    }

    private int set(int f, int what) {
        if (!isField(f) || what < 0 || what > 3) {
            return INVALID;
        }
        String after = put(now.fields, f, what);
        if (isSide(what) && times(after, what) > 3) {
            return LIMIT;
        }
        int answer = now.fields.charAt(f) - '0';
        change(new State(now.w, now.h, after));
        return answer;
    }

    int setField(int f, int what) {
        return set(f, what);
    }

    int field(int f) {
        return isField(f) ? now.fields.charAt(f) - '0' : INVALID;
    }

    int count(int what) {
        return what < 0 || what > 3 ? INVALID : times(now.fields, what);
    }

    int isSeen(int a, int b) {
        return !isField(a) || !isField(b) ? INVALID : sees(now.fields, a, b) ? 1 : 0;
    }

    int undo() {
        if (history.isEmpty()) {
            return IMPOSSIBLE;
        }
        State before = history.removeLast();
        if (before.w != now.w || before.h != now.h) {
            kept.clear();
        }
        now = before;
        return history.size();
    }

    int move(int side, int from, int to, int burnt) {
        if (!isSide(side) || !isField(from) || !isField(to) || !isField(burnt)) {
            return INVALID;
        }
        for (int[] m : allMoves(now.fields, side)) {
            if (m[0] == from && m[1] == to && m[2] == burnt) {
                change(new State(now.w, now.h, play(now.fields, side, m)));
                return allMoves(now.fields, other(side)).size();
            }
        }
        return IMPOSSIBLE;
    }

    int moves(int side) {
        return isSide(side) ? allMoves(now.fields, side).size() : INVALID;
    }

    int moveAt(int side, int index, int what) {
        if (!isSide(side) || index < 0 || what < 0 || what > 2) {
            return INVALID;
        }
        List<int[]> list = allMoves(now.fields, side);
        return index < list.size() ? list.get(index)[what] : MISSING;
    }

    int regions() {
        int most = -1;
        for (int n : numbers()) {
            most = Math.max(most, n);
        }
        return most + 1;
    }

    int regionOf(int f) {
        if (!isField(f)) {
            return INVALID;
        }
        return numbers()[f] < 0 ? MISSING : numbers()[f];
    }

    int regionInfo(int region, int what) {
        if (region < 0 || region >= regions() || what < 0 || what > 5) {
            return INVALID;
        }
        String alone = alone(region);
        switch (what) {
            case 0: return kind(alone);
            case 1: return alone.length() - times(alone, 3);
            case 2: return times(alone, 0);
            case 3: return times(alone, 1);
            case 4: return times(alone, 2);
            default: break;
        }
        int lowest = 0;
        while (alone.charAt(lowest) == '3') {
            lowest++;
        }
        return lowest;
    }

    int value(int region) {
        if (region < 0 || region >= regions()) {
            return INVALID;
        }
        return kind(alone(region)) == 3 ? IMPOSSIBLE : ask(region);
    }

    int lead() {
        int n = regions();
        for (int r = 0; r < n; r++) {
            if (kind(alone(r)) == 3) {
                return IMPOSSIBLE;
            }
        }
        int sum = 0;
        for (int r = 0; r < n; r++) {
            int v = ask(r);
            if (v == LARGE) {
                return LARGE;
            }
            sum += kind(alone(r)) == 2 ? -v : v;
        }
        return sum;
    }

    int kept(int what) {
        return what == 0 ? kept.size() : what == 1 ? hits : INVALID;
    }

    int positions(int side) {
        if (!isSide(side)) {
            return INVALID;
        }
        Set<String> all = reach(now.fields, side, true);
        return all == null ? LARGE : all.size();
    }

    int wins(int side) {
        if (!isSide(side)) {
            return INVALID;
        }
        if (reach(now.fields, side, true) == null) {
            return LARGE;
        }
        return winning(now.fields, side, new HashMap<>()) ? 1 : 0;
    }

    int outcome() {
        return outcomeFrom(now.fields);
    }

    int outcomeOf(int region) {
        return region < 0 || region >= regions() ? INVALID : outcomeFrom(alone(region));
    }

    int bestMove(int side) {
        if (!isSide(side)) {
            return INVALID;
        }
        if (reach(now.fields, side, true) == null) {
            return LARGE;
        }
        int index = 0;
        Map<String, Boolean> known = new HashMap<>();
        for (int[] m : allMoves(now.fields, side)) {
            if (!winning(play(now.fields, side, m), other(side), known)) {
                return index;
            }
            index++;
        }
        return MISSING;
    }

    int length(int side) {
        if (!isSide(side)) {
            return INVALID;
        }
        if (reach(now.fields, side, true) == null) {
            return LARGE;
        }
        return plies(now.fields, side, new HashMap<>(), new HashMap<>());
    }

    int zugzwangs() {
        Set<String> left = reach(now.fields, 1, true), right = reach(now.fields, 2, true);
        if (left == null || right == null) {
            return LARGE;
        }
        Set<String> all = new HashSet<>(left);
        all.addAll(right);
        Map<String, Boolean> known = new HashMap<>();
        int n = 0;
        for (String p : all) {
            String fields = p.substring(1);
            if (p.charAt(0) == '1' && all.contains("2" + fields)
                    && !winning(fields, 1, known) && !winning(fields, 2, known)) {
                n++;
            }
        }
        return n;
    }

    int type(int c) {
        if (c < 32 || c > 126) {
            return INVALID;
        }
        if (text.length() == 60) {
            return LIMIT;
        }
        text += (char) c;
        return text.length();
    }

    int clearText() {
        int n = text.length();
        text = "";
        return n;
    }

    private static final Pattern COMMAND =
            Pattern.compile("(?:(left|right|free|burn)( [0-9]{1,2})|(move)((?: [0-9]{1,2}){4})|(pass));");

    int fault() {
        Matcher m = COMMAND.matcher(text);
        int at = 0;
        while (at < text.length()) {
            m.region(at, text.length());
            if (!m.lookingAt()) {
                return at;
            }
            at = m.end();
        }
        return MISSING;
    }

    int run() {
        if (fault() != MISSING) {
            return IMPOSSIBLE;
        }
        State before = now;
        List<State> states = new ArrayList<>(history);
        int done = 0;
        for (String command : text.isEmpty() ? new String[0] : text.split(";")) {
            if (execute(command.split(" ")) < 0) {
                break;
            }
            done++;
        }
        State after = now;
        history.clear();
        history.addAll(states);
        now = before;
        change(after);
        return done;
    }

    private int execute(String[] words) {
        int[] n = new int[4];
        for (int i = 1; i < words.length; i++) {
            n[i - 1] = Integer.parseInt(words[i]);
        }
        switch (words[0]) {
            case "left": return set(n[0], 1);
            case "right": return set(n[0], 2);
            case "free": return set(n[0], 0);
            case "burn": return set(n[0], 3);
            case "move": return move(n[0], n[1], n[2], n[3]);
            default: return 0;
        }
    }
}
