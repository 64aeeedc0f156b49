import java.math.BigInteger;
import java.util.ArrayDeque;
import java.util.ArrayList;
import java.util.Arrays;
import java.util.Deque;
import java.util.HashMap;
import java.util.List;
import java.util.Map;
import java.util.regex.Matcher;
import java.util.regex.Pattern;

/** The document once more, by lists of days and by trying all there is: as slow and as literal as can be. */
final class Model {
    private static final String PART =
        "(C[a-l](?:0[a-l]|1[0-9])[a-l][0-9]|B[a-l][0-9]|T[2-9][0-9]|O(?:0[123]|1[023]|2[013]|3[012])[1-9])";
    private static final Pattern PARTS = Pattern.compile(PART);
    private static final Pattern FORM = Pattern.compile("M" + PART + "*");
    private static final int SKIPPED = 99;

    /** How all stands: what an act leaves behind is put on top. */
    private record State(int place, List<Boolean> voided, List<Boolean> byCount) { }

    private String text = "";
    private final Map<Character, List<String>> parts = new HashMap<>();
    private State now = new State(13, List.of(), List.of());
    private final Deque<State> before = new ArrayDeque<>();
    private final List<int[]> seen = new ArrayList<>();
    private final State[] kept = new State[2];
    private long seed = 0;

    Model() {
        for (char kind : "CBTO".toCharArray()) {
            parts.put(kind, new ArrayList<>());
        }
    }

    private List<String> told(char kind) {
        return parts.get(kind);
    }

    private int contracts() {
        return told('C').size();
    }

    private boolean isContract(int contract) {
        return contract >= 0 && contract < contracts();
    }

    // ---- the case

    int write(int letter) {
        if (letter < 0 || letter > 255) {
            return Check.BAD;
        }
        if (text.length() == 64) {
            return Check.FULL;
        }
        text += (char) letter;
        return text.length();
    }

    int wipe() {
        int length = text.length();
        text = "";
        return length;
    }

    private static boolean isCase(String text) {
        if (!FORM.matcher(text).matches()) {
            return false;
        }
        Map<Character, Integer> counts = new HashMap<>();
        Matcher matcher = PARTS.matcher(text);
        while (matcher.find()) {
            counts.merge(matcher.group().charAt(0), 1, Integer::sum);
        }
        return counts.getOrDefault('C', 0) <= 5 && counts.getOrDefault('B', 0) <= 3
            && counts.getOrDefault('T', 0) <= 3 && counts.getOrDefault('O', 0) <= 6;
    }

    /** Whether some bytes behind it, five at most, make a case of it: these four signs fit wherever one can. */
    private static boolean canBecomeCase(String text, int more) {
        if (isCase(text)) {
            return true;
        }
        if (more > 0) {
            for (char sign : "a012".toCharArray()) {
                if (canBecomeCase(text + sign, more - 1)) {
                    return true;
                }
            }
        }
        return text.isEmpty();
    }

    int fault() {
        int good = 0;
        int bad = text.length() + 1;
        while (bad - good > 1) {
            int middle = (good + bad) / 2;
            if (canBecomeCase(text.substring(0, middle), 5)) {
                good = middle;
            } else {
                bad = middle;
            }
        }
        if (good < text.length()) {
            return good;
        }
        return isCase(text) ? Check.NONE : text.length();
    }

    int open() {
        if (!isCase(text)) {
            return Check.LATE;
        }
        for (List<String> some : parts.values()) {
            some.clear();
        }
        List<Boolean> voided = new ArrayList<>();
        List<Boolean> byCount = new ArrayList<>();
        Matcher matcher = PARTS.matcher(text);
        while (matcher.find()) {
            String part = matcher.group();
            told(part.charAt(0)).add(part);
            if (part.charAt(0) == 'C') {
                voided.add(false);
                byCount.add(part.charAt(2) == '1');
            }
        }
        now = new State(13, voided, byCount);
        before.clear();
        Arrays.fill(kept, null);
        return 10 * contracts() + told('B').size();
    }

    int about(int what) {
        if (what >= 0 && what <= 3) {
            return told("CBTO".charAt(what)).size();
        }
        switch (what) {
            case 4: return now.place == 13 ? Check.NONE : now.place;
            case 5: return bits(now.voided);
            case 6: return bits(brokenIn(now, now.place));
            case 7: return before.size();
            case 8: return seen.size();
            case 9: return text.length();
            default: return Check.BAD;
        }
    }

    private static int bits(List<Boolean> those) {
        int sum = 0;
        for (int i = 0; i < those.size(); i++) {
            sum += those.get(i) ? (int) Math.pow(2, i) : 0;
        }
        return sum;
    }

    // ---- days

    private static List<Integer> days(int place) {
        List<Integer> days = new ArrayList<>();
        for (int day = 0; day < 12; day++) {
            days.add(day);
        }
        if (place < 13) {
            days.add(place, SKIPPED);
        }
        return days;
    }

    private static int comes(int day, int place) {
        return days(place).indexOf(day);
    }

    private static int value(char letter) {
        return letter >= 'a' ? letter - 'a' : letter - '0';
    }

    private int ends(int contract, boolean byCount, int place) {
        String part = told('C').get(contract);
        int v = value(part.charAt(3));
        return byCount ? comes(value(part.charAt(1)), place) + v : comes(v, place);
    }

    private boolean holds(int contract, boolean byCount, int place) {
        String part = told('C').get(contract);
        int end = ends(contract, byCount, place);
        boolean late = end > comes(value(part.charAt(4)), place);
        boolean brief = end - comes(value(part.charAt(1)), place) < value(part.charAt(5));
        return !late && !brief;
    }

    private List<Boolean> brokenIn(State state, int place) {
        List<Boolean> broken = new ArrayList<>();
        for (int c = 0; c < contracts(); c++) {
            broken.add(!state.voided.get(c) && !holds(c, state.byCount.get(c), place));
        }
        return broken;
    }

    int contract(int contract, int what) {
        if (!isContract(contract)) {
            return Check.UNKNOWN;
        }
        String part = told('C').get(contract);
        switch (what) {
            case 0: return value(part.charAt(1));
            case 1: return now.byCount.get(contract) ? 1 : 0;
            case 2: return value(part.charAt(3));
            case 3: return value(part.charAt(4));
            case 4: return value(part.charAt(5));
            case 5: return now.voided.get(contract) ? 1 : 0;
            case 6: return ends(contract, now.byCount.get(contract), now.place);
            default: return Check.BAD;
        }
    }

    // ---- acts

    private void act(State next) {
        before.addLast(now);
        if (before.size() > 14) {
            before.removeFirst();
        }
        now = next;
    }

    private static List<Boolean> turned(List<Boolean> those, int which) {
        List<Boolean> next = new ArrayList<>(those);
        next.set(which, !next.get(which));
        return next;
    }

    int put(int gap) {
        if (gap < 0 || gap > 13) {
            return Check.BAD;
        }
        if (now.place == gap) {
            return Check.LATE;
        }
        int was = about(4);
        act(new State(gap, now.voided, now.byCount));
        return was;
    }

    int turnVoid(int contract) {
        if (!isContract(contract)) {
            return Check.UNKNOWN;
        }
        act(new State(now.place, turned(now.voided, contract), now.byCount));
        return contract(contract, 5);
    }

    int readOtherwise(int contract) {
        if (!isContract(contract)) {
            return Check.UNKNOWN;
        }
        if (contract(contract, 1) == 0 && contract(contract, 2) >= 10) {
            return Check.LATE;
        }
        act(new State(now.place, now.voided, turned(now.byCount, contract)));
        return contract(contract, 1);
    }

    int undo() {
        if (before.isEmpty()) {
            return Check.LATE;
        }
        now = before.removeLast();
        return before.size();
    }

    // ---- where

    int broken(int gap) {
        return gap < 0 || gap > 13 ? Check.BAD : bits(brokenIn(now, gap));
    }

    int best(int those, int what) {
        if (those < 0 || those >= Math.pow(2, contracts()) || what < 0 || what > 1) {
            return Check.BAD;
        }
        for (int count = 0; count <= 5; count++) {
            for (int gap = 0; gap <= 13; gap++) {
                if (Integer.bitCount(broken(gap)) == count && (broken(gap) & those) == 0) {
                    return what == 0 ? gap : count;
                }
            }
        }
        return Check.NONE;
    }

    int quarrel() {
        for (int i = 0; i < contracts(); i++) {
            for (int j = i + 1; j < contracts(); j++) {
                boolean one = false;
                boolean other = false;
                boolean both = false;
                for (int gap = 0; gap <= 13; gap++) {
                    boolean first = holds(i, now.byCount.get(i), gap);
                    boolean second = holds(j, now.byCount.get(j), gap);
                    one |= first;
                    other |= second;
                    both |= first && second;
                }
                if (!now.voided.get(i) && !now.voided.get(j) && one && other && !both) {
                    return 10 * i + j;
                }
            }
        }
        return Check.NONE;
    }

    int drop() {
        for (int count = 0; count <= 5; count++) {
            for (int set = 0; set < 32; set++) {
                if (Integer.bitCount(set) == count && (set & bits(now.voided)) == 0 && othersHold(set)) {
                    return set;
                }
            }
        }
        throw new IllegalStateException("without all of them all others hold");
    }

    private boolean othersHold(int set) {
        for (int gap = 0; gap <= 12; gap++) {
            boolean all = true;
            for (int c = 0; c < contracts(); c++) {
                boolean counts = !now.voided.get(c) && (set >> c) % 2 == 0;
                all &= !counts || holds(c, now.byCount.get(c), gap);
            }
            if (all) {
                return true;
            }
        }
        return false;
    }

    // ---- read, of age

    int see(int contract, int d) {
        if (!isContract(contract)) {
            return Check.UNKNOWN;
        }
        if (d < 0 || d > 11) {
            return Check.BAD;
        }
        if (seen.size() == 6) {
            return Check.FULL;
        }
        seen.add(new int[] {contract, d});
        return seen.size();
    }

    int unsee() {
        int size = seen.size();
        seen.clear();
        return size;
    }

    int meant(int contract) {
        if (!isContract(contract)) {
            return Check.UNKNOWN;
        }
        boolean name = true;
        boolean count = true;
        for (int[] one : seen) {
            if (one[0] == contract) {
                name &= ends(contract, false, now.place) == comes(one[1], now.place);
                count &= ends(contract, true, now.place) == comes(one[1], now.place);
            }
        }
        return (name ? 1 : 0) + (count ? 2 : 0);
    }

    int ofAge(int birth, int gap) {
        if (birth < 0 || birth >= told('B').size()) {
            return Check.UNKNOWN;
        }
        if (gap < 0 || gap > 13) {
            return Check.BAD;
        }
        String part = told('B').get(birth);
        int day = comes(value(part.charAt(1)), gap) + value(part.charAt(2));
        if (day >= days(gap).size()) {
            return 13;
        }
        return days(gap).get(day) == SKIPPED ? 12 : days(gap).get(day);
    }

    int agree(int d, int gap) {
        if (d < 0 || d > 11 || gap < 0 || gap > 13) {
            return Check.BAD;
        }
        int count = 0;
        for (String part : told('T')) {
            for (int day = value(part.charAt(2)); day < 30; day += value(part.charAt(1))) {
                count += day == comes(d, gap) ? 1 : 0;
            }
        }
        return count;
    }

    // ---- debts, sides

    int net(int party) {
        if (party < 0 || party > 3) {
            return Check.UNKNOWN;
        }
        int net = 100;
        for (String part : told('O')) {
            net += value(part.charAt(2)) == party ? value(part.charAt(3)) : 0;
            net -= value(part.charAt(1)) == party ? value(part.charAt(3)) : 0;
        }
        return net;
    }

    /** By payings themselves: each party's net is walked to nothing, one paying at a time. */
    int payings() {
        int[] nets = {net(0) - 100, net(1) - 100, net(2) - 100, net(3) - 100};
        return fewestPayings(nets);
    }

    private static int fewestPayings(int[] nets) {
        int first = 0;
        while (first < 4 && nets[first] == 0) {
            first++;
        }
        if (first == 4) {
            return 0;
        }
        int fewest = 99;
        for (int other = first + 1; other < 4; other++) {
            if (nets[other] != 0) {
                int[] next = nets.clone();
                next[other] += next[first];
                next[first] = 0;
                fewest = Math.min(fewest, 1 + fewestPayings(next));
            }
        }
        return fewest;
    }

    int strike(int set, int a, int b, int what) {
        int count = Integer.bitCount(set);
        if (set < 0 || set >= 8192 || count < 2 || count > 6 || a < 0 || a > 12 || b < 0 || b > 12
            || what < 0 || what > 1) {
            return Check.BAD;
        }
        return struck(set, a, b)[what];
    }

    private static int[] struck(int set, int own, int others) {
        int[] best = null;
        for (int gap = 0; gap < 13; gap++) {
            if ((set >> gap) % 2 == 1) {
                if (set == 1 << gap) {
                    return new int[] {gap, -1};
                }
                int last = struck(set - (1 << gap), others, own)[0];
                if (best == null || Math.abs(last - own) < Math.abs(best[0] - own)) {
                    best = new int[] {last, gap};
                }
            }
        }
        return best;
    }

    // ---- rules, chances

    int rule(int n, int years, int what) {
        if (n < 1 || n > 10 || years < 0 || years >= Math.pow(2, n) || what < 0 || what > 1) {
            return Check.BAD;
        }
        if (years == 0) {
            return 0;
        }
        for (int p = 1; p <= 10; p++) {
            for (int r = 0; r < p; r++) {
                int told = 0;
                for (int year = r; year < n; year += p) {
                    told += 1 << year;
                }
                if (told == years) {
                    return what == 0 ? p : r;
                }
            }
        }
        return Check.NONE;
    }

    int slips(int n, int k, int x, boolean upper) {
        if (n < 1 || n > 6 || k < 0 || k > n || x < 0 || x > 10) {
            return Check.BAD;
        }
        long above = 0;
        long below = 1;
        for (int i = 0; i < n; i++) {
            below *= 10;
        }
        for (int years = 0; years < 1 << n; years++) {
            long chance = 1;
            for (int i = 0; i < n; i++) {
                chance *= (years >> i) % 2 == 1 ? x : 10 - x;
            }
            above += Integer.bitCount(years) == k ? chance : 0;
        }
        long common = BigInteger.valueOf(above).gcd(BigInteger.valueOf(below)).longValue();
        return (int) ((upper ? above : below) / common);
    }

    long seed(long v) {
        long was = seed;
        seed = v;
        return was;
    }

    int years(int m) {
        if (m < 1 || m > 40) {
            return Check.BAD;
        }
        int count = 0;
        BigInteger round = BigInteger.ONE.shiftLeft(64);
        for (int i = 0; i < m; i++) {
            BigInteger x = BigInteger.valueOf(seed).multiply(new BigInteger("6364136223846793005"))
                .add(new BigInteger("1442695040888963407")).mod(round);
            seed = x.longValue();
            int place = x.divide(BigInteger.ONE.shiftLeft(33)).mod(BigInteger.valueOf(14)).intValue();
            for (boolean one : brokenIn(now, place)) {
                count += one ? 1 : 0;
            }
        }
        return count;
    }

    // ---- slots

    int keep(int slot) {
        if (slot < 0 || slot > 1) {
            return Check.UNKNOWN;
        }
        kept[slot] = now;
        return Integer.bitCount(about(6));
    }

    int again(int slot) {
        if (slot < 0 || slot > 1) {
            return Check.UNKNOWN;
        }
        if (kept[slot] == null) {
            return Check.LATE;
        }
        now = kept[slot];
        before.clear();
        return Integer.bitCount(about(6));
    }
}
