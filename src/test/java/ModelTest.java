import java.math.BigInteger;
import java.util.ArrayDeque;
import java.util.ArrayList;
import java.util.Arrays;
import java.util.Deque;
import java.util.List;
import java.util.Random;
import java.util.regex.Matcher;
import java.util.regex.Pattern;

/**
 * Long rows of calls, drawn with fixed seeds: each answer, and all that can be asked of the state behind it,
 * against a second program that follows the document's words one by one and spares nothing.
 */
public final class ModelTest {
    private static final int BAD = -1, STATE = -2, FULL = -3, FEW = -4, STALE = -5, NONE = -9;

    /** A CONFIGURATION; never changed once made. */
    private record Rule(List<Integer> votes, List<Boolean> witness, int read, int write) {
        int total() {
            return votes.stream().mapToInt(v -> v).sum();
        }

        boolean lawful() {
            return read + write > total() && write + write > total() && !(read > total()) && !(write > total());
        }
    }

    /** A COPY; never changed once made. A value of null is none. */
    private record Site(boolean up, int group, int version, Integer value, int rule) {
    }

    /** All of section 2; never changed once made. */
    private record World(List<Site> sites, List<Rule> rules) {
        Rule newest() {
            return rules.get(rules.size() - 1);
        }

        World with(int copy, Site site) {
            List<Site> others = new ArrayList<>(sites);
            others.set(copy, site);
            return new World(List.copyOf(others), rules);
        }
    }

    private static final class Model {
        World world = new World(List.of(), List.of(new Rule(List.of(), List.of(), 1, 1)));
        String text = "";
        final Deque<World> undo = new ArrayDeque<>();
        final World[] images = new World[2];
        final List<int[]> seen = new ArrayList<>();
        int asked = 0;

        int type(int letter) {
            if (letter < 0 || letter > 255) return BAD;
            if (text.length() == 120) return FULL;
            text += (char) letter;
            return text.length();
        }

        int clear() {
            int had = text.length();
            text = "";
            return had;
        }

        int file() {
            Matcher token = Pattern.compile(" *([a-z]+|[0-9]+|[^ ])", Pattern.DOTALL).matcher(text);
            List<String> tokens = new ArrayList<>();
            List<Integer> places = new ArrayList<>();
            while (token.find()) {
                tokens.add(token.group(1));
                places.add(token.start(1));
            }
            places.add(text.length());
            List<Integer> votes = new ArrayList<>();
            List<Boolean> witness = new ArrayList<>();
            int read = 0;
            int write = 0;
            for (int i = 0; i < tokens.size(); i++) {
                String now = tokens.get(i);
                if (i % 3 == 0) {
                    boolean site = now.equals("copy") || now.equals("witness");
                    boolean fits = site && votes.size() < 6 || now.equals("read") && read == 0
                        || now.equals("write") && write == 0;
                    if (!fits) return -10 - places.get(i);
                } else if (i % 3 == 1) {
                    String word = tokens.get(i - 1);
                    boolean site = word.equals("copy") || word.equals("witness");
                    if (!now.matches("0|[1-9][0-9]?")) return -10 - places.get(i);
                    int number = Integer.parseInt(now);
                    if (site ? number > 5 : number < 1 || number > 30) return -10 - places.get(i);
                    if (site) {
                        votes.add(number);
                        witness.add(word.equals("witness"));
                    } else if (word.equals("read")) {
                        read = number;
                    } else {
                        write = number;
                    }
                } else if (!now.equals(";")) {
                    return -10 - places.get(i);
                }
            }
            if (tokens.size() % 3 != 0) return -10 - text.length();
            Rule rule = tokens.isEmpty() ? new Rule(List.of(), List.of(), 1, 1)
                : new Rule(List.copyOf(votes), List.copyOf(witness), read, write);
            if (!tokens.isEmpty() && (read == 0 || write == 0 || !rule.lawful())) return -10 - text.length();
            List<Site> sites = new ArrayList<>();
            for (boolean w : witness) sites.add(new Site(true, 0, 0, w ? null : 0, 0));
            world = new World(List.copyOf(sites), List.of(rule));
            undo.clear();
            seen.clear();
            Arrays.fill(images, null);
            text = "";
            return tokens.size() / 3;
        }

        boolean noGroup(int group) {
            return group < 0 || group > 2;
        }

        boolean noCopy(int copy) {
            return copy < 0 || copy >= world.sites.size();
        }

        List<Integer> present(int group) {
            List<Integer> found = new ArrayList<>();
            for (int i = 0; i < world.sites.size(); i++) {
                if (world.sites.get(i).up && world.sites.get(i).group == group) found.add(i);
            }
            return found;
        }

        int known(int group) {
            return present(group).stream().mapToInt(i -> world.sites.get(i).rule).max().orElse(NONE);
        }

        int latest(int group) {
            return present(group).stream().mapToInt(i -> world.sites.get(i).version).max().orElse(NONE);
        }

        int weight(int group) {
            return present(group).stream().mapToInt(i -> world.rules.get(known(group)).votes.get(i)).sum();
        }

        Integer data(int group) {
            Integer value = null;
            for (int i : present(group)) {
                Site site = world.sites.get(i);
                if (site.version == latest(group) && site.value != null) {
                    if (value != null && !value.equals(site.value)) {
                        throw new IllegalStateException("one version, two values");
                    }
                    value = site.value;
                }
            }
            return value;
        }

        boolean enough(int group, boolean write) {
            if (present(group).isEmpty()) return false;
            Rule rule = world.rules.get(known(group));
            return weight(group) >= (write ? rule.write : rule.read);
        }

        void give(int group, int rule, int version, Integer value) {
            for (int i : present(group)) {
                Site site = world.sites.get(i);
                boolean witness = world.rules.get(rule).witness.get(i);
                world = world.with(i, new Site(site.up, site.group, version, witness ? null : value, rule));
            }
        }

        void remember() {
            undo.addLast(world);
            if (undo.size() > 10) undo.removeFirst();
        }

        int reads(int group) {
            if (noGroup(group)) return BAD;
            if (!enough(group, false)) return FEW;
            if (data(group) == null) return STALE;
            asked = data(group);
            return latest(group);
        }

        int writes(int group, int value) {
            if (noGroup(group) || value < 0 || value > 999) return BAD;
            if (!enough(group, true)) return FEW;
            remember();
            int version = latest(group) + 1;
            give(group, known(group), version, value);
            return version;
        }

        int mends(int group) {
            if (noGroup(group)) return BAD;
            if (!enough(group, false)) return FEW;
            if (data(group) == null) return STALE;
            remember();
            World before = world;
            give(group, known(group), latest(group), data(group));
            int others = 0;
            for (int i = 0; i < before.sites.size(); i++) {
                if (before.sites.get(i).version != world.sites.get(i).version) others++;
            }
            return others;
        }

        int votes(int[] a) {
            int group = a[0];
            int copy = a[1];
            if (noGroup(group) || noCopy(copy) || a[2] < 0 || a[2] > 5 || a[3] < 0 || a[3] > 1
                || a[4] < 1 || a[4] > 30 || a[5] < 1 || a[5] > 30) return BAD;
            if (world.rules.size() == 8) return FULL;
            if (present(group).isEmpty()) return FEW;
            Rule old = world.rules.get(known(group));
            List<Integer> votes = new ArrayList<>(old.votes);
            List<Boolean> witness = new ArrayList<>(old.witness);
            votes.set(copy, a[2]);
            witness.set(copy, a[3] == 1);
            Rule rule = new Rule(List.copyOf(votes), List.copyOf(witness), a[4], a[5]);
            if (!rule.lawful()) return STATE;
            if (!enough(group, true)) return FEW;
            Integer value = data(group);
            if (value == null) return STALE;
            remember();
            List<Rule> rules = new ArrayList<>(world.rules);
            rules.add(rule);
            world = new World(world.sites, List.copyOf(rules));
            give(group, rules.size() - 1, latest(group), value);
            return rules.size() - 1;
        }

        int flips(int copy) {
            if (noCopy(copy)) return BAD;
            remember();
            Site s = world.sites.get(copy);
            world = world.with(copy, new Site(!s.up, s.group, s.version, s.value, s.rule));
            return s.up ? 0 : 1;
        }

        int moves(int copy, int group) {
            if (noCopy(copy) || noGroup(group)) return BAD;
            Site s = world.sites.get(copy);
            if (s.group == group) return STATE;
            remember();
            world = world.with(copy, new Site(s.up, group, s.version, s.value, s.rule));
            return s.group;
        }

        int undo() {
            if (undo.isEmpty()) return STATE;
            world = undo.removeLast();
            return undo.size();
        }

        int copy(int copy, int what) {
            if (noCopy(copy) || what < 0 || what > 6) return BAD;
            Site s = world.sites.get(copy);
            int[] all = {s.up ? 1 : 0, s.group, s.version, s.value == null ? NONE : s.value, s.rule,
                world.newest().votes.get(copy), world.newest().witness.get(copy) ? 1 : 0};
            return all[what];
        }

        int group(int group, int what) {
            if (noGroup(group) || what < 0 || what > 7) return BAD;
            boolean any = !present(group).isEmpty();
            boolean data = any && data(group) != null;
            int[] all = {present(group).stream().mapToInt(i -> 1 << i).sum(), known(group), any ? weight(group) : 0,
                latest(group), data ? 1 : 0, data && enough(group, false) ? 1 : 0, enough(group, true) ? 1 : 0,
                data && enough(group, true) && world.rules.size() < 8 ? 1 : 0};
            return all[what];
        }

        int setVotes(List<Integer> votes, int set) {
            int sum = 0;
            for (int i = 0; i < votes.size(); i++) {
                if ((set & 1 << i) != 0) sum += votes.get(i);
            }
            return sum;
        }

        /** Over 10 to the power of how many COPIES. */
        BigInteger likely(List<Integer> votes, int x, int need) {
            BigInteger sum = BigInteger.ZERO;
            for (int set = 0; set < 1 << votes.size(); set++) {
                if (setVotes(votes, set) < need) continue;
                int up = Integer.bitCount(set);
                sum = sum.add(BigInteger.valueOf(x).pow(up).multiply(BigInteger.valueOf(10 - x).pow(votes.size() - up)));
            }
            return sum;
        }

        int need(int way) {
            return way == 0 ? world.newest().read : world.newest().write;
        }

        int chance(int x, int way, int what) {
            if (x < 0 || x > 10 || way < 0 || way > 1 || what < 0 || what > 1) return BAD;
            BigInteger upper = likely(world.newest().votes, x, need(way));
            BigInteger lower = BigInteger.TEN.pow(world.sites.size());
            return (what == 0 ? upper : lower).divide(upper.gcd(lower)).intValueExact();
        }

        int least(int way) {
            if (way < 0 || way > 1) return BAD;
            for (int size = 0; size <= world.sites.size(); size++) {
                for (int set = 0; set < 1 << world.sites.size(); set++) {
                    if (Integer.bitCount(set) == size && setVotes(world.newest().votes, set) >= need(way)) return set;
                }
            }
            return 0;
        }

        /** Every order of VOTES is tried, set by set. */
        int best(int x, int a, int what) {
            if (x < 0 || x > 10 || a < 0 || a > 10 || what < 0 || what > 2) return BAD;
            int n = world.sites.size();
            if (n == 0) return NONE;
            long[] best = {-1, 0, 0};
            for (int code = 0; code < 1 << 2 * n; code++) {
                int total = 0;
                for (int i = 0; i < n; i++) total += code >> 2 * i & 3;
                long[] exactly = new long[total + 1];
                for (int set = 0; set < 1 << n; set++) {
                    int sum = 0;
                    long weight = 1;
                    for (int i = 0; i < n; i++) {
                        boolean up = (set >> i & 1) == 1;
                        sum += up ? code >> 2 * i & 3 : 0;
                        weight *= up ? x : 10 - x;
                    }
                    exactly[sum] += weight;
                }
                for (int write = 1; write <= total; write++) {
                    if (2 * write <= total) continue;
                    long much = 0;
                    for (int sum = 0; sum <= total; sum++) {
                        if (sum >= total + 1 - write) much += a * exactly[sum];
                        if (sum >= write) much += (10 - a) * exactly[sum];
                    }
                    if (much > best[0]) best = new long[] {much, code, write};
                }
            }
            return (int) best[what];
        }

        int sees(int way, int is) {
            if (way < 0 || way > 1 || is < 0 || is > 1) return BAD;
            if (seen.size() == 6) return FULL;
            seen.add(new int[] {way, is});
            return seen.size();
        }

        int forget() {
            int had = seen.size();
            seen.clear();
            return had;
        }

        int unseen(int what) {
            if (what < 0 || what > 1) return BAD;
            List<Integer> fit = new ArrayList<>();
            int all = (1 << world.sites.size()) - 1;
            for (int down = 0; down <= all; down++) {
                int votes = setVotes(world.newest().votes, all - down);
                if (seen.stream().allMatch(s -> (votes >= need(s[0]) ? 1 : 0) == s[1])) fit.add(down);
            }
            if (what == 0) return fit.size();
            return fit.isEmpty() ? NONE : fit.get(0);
        }

        int keep(int image) {
            if (image < 0 || image > 1) return BAD;
            images[image] = world;
            return world.sites.size();
        }

        int back(int image) {
            if (image < 0 || image > 1) return BAD;
            if (images[image] == null) return STATE;
            world = images[image];
            undo.clear();
            return world.sites.size();
        }

        int count(int what) {
            if (what < 0 || what > 7) return BAD;
            int[] all = {world.sites.size(), world.rules.size(), world.newest().read, world.newest().write,
                world.newest().total(), seen.size(), text.length(), undo.size()};
            return all[what];
        }
    }

    private final Random random;
    private final VoteFiles files = new VoteFiles();
    private final Model model = new Model();
    private final List<String> calls = new ArrayList<>();
    private static long answers = 0;

    private ModelTest(long seed) {
        random = new Random(seed);
    }

    private void same(String call, int got, int want) {
        answers++;
        calls.add(call + " = " + want);
        if (got != want) {
            calls.forEach(System.out::println);
            System.out.println("ModelTest: " + call + " answered " + got + ", due is " + want);
            System.exit(1);
        }
    }

    /** Mostly from 0 to below the limit, now and then beside it. */
    private int near(int limit) {
        return random.nextInt(25) == 0 ? (random.nextBoolean() ? -1 - random.nextInt(3) : limit + random.nextInt(3))
            : random.nextInt(Math.max(limit, 1));
    }

    private void type(String text) {
        for (char letter : text.toCharArray()) same("type(" + (int) letter + ")", files.type(letter), model.type(letter));
    }

    private String blanks() {
        return random.nextInt(4) == 0 ? " ".repeat(random.nextInt(3)) : "";
    }

    private String rightText() {
        List<String> items = new ArrayList<>();
        int total = 0;
        int n = 1 + random.nextInt(6);
        for (int i = 0; i < n; i++) {
            int votes = random.nextInt(4) == 0 ? random.nextInt(6) : 1 + random.nextInt(2);
            total += votes;
            items.add((random.nextInt(3) == 0 ? "witness " : "copy ") + votes);
        }
        if (total == 0) return "";
        int write = total / 2 + 1 + random.nextInt(total - total / 2);
        int read = total + 1 - write + random.nextInt(write);
        items.add(random.nextInt(items.size() + 1), "read " + read);
        items.add(random.nextInt(items.size() + 1), "write " + write);
        StringBuilder text = new StringBuilder();
        for (String item : items) text.append(blanks()).append(item).append(blanks()).append(";");
        return text + blanks();
    }

    private String wrongText() {
        StringBuilder text = new StringBuilder(rightText());
        for (int i = random.nextInt(3); i >= 0 && text.length() > 0; i--) {
            int at = random.nextInt(text.length());
            String signs = "copywitnessread 0123456789;;;  #A{`/:\u00ff\u0000";
            switch (random.nextInt(5)) {
                case 0 -> text.deleteCharAt(at);
                case 1 -> text.insert(at, signs.charAt(random.nextInt(signs.length())));
                case 2 -> text.setCharAt(at, signs.charAt(random.nextInt(signs.length())));
                case 3 -> text.setLength(at);
                default -> text.insert(at, new String[] {"copy 1;", "read 2;", "write 3;", "witness", "100", "00", ";"}
                    [random.nextInt(7)]);
            }
        }
        return text.toString();
    }

    private void tell() {
        if (random.nextInt(3) > 0) same("clear()", files.clear(), model.clear());
        type(random.nextInt(3) == 0 ? wrongText() : rightText());
        same("file()", files.file(), model.file());
    }

    private void vote() {
        int n = model.world.sites.size();
        int[] a = {near(3), near(n), near(6), near(2), 1 + near(30), 1 + near(30)};
        if (random.nextInt(5) > 0 && n > 0) {
            a[0] = model.world.sites.get(random.nextInt(n)).group;
            a[2] = random.nextInt(4);
            a[3] = random.nextInt(3) == 0 ? 1 : 0;
            Rule rule = model.world.newest();
            int total = rule.total() + (a[1] >= 0 && a[1] < n ? a[2] - rule.votes.get(a[1]) : 0);
            if (total > 0) {
                a[5] = total / 2 + 1 + random.nextInt(total - total / 2);
                a[4] = total + 1 - a[5] + random.nextInt(a[5]);
            }
        }
        same("votes" + Arrays.toString(a), files.votes(a[0], a[1], a[2], a[3], a[4], a[5]), model.votes(a));
    }

    private void act() {
        int n = model.world.sites.size();
        int a = near(n);
        int g = near(3);
        int v = near(1000);
        switch (random.nextInt(16)) {
            case 0, 1 -> same("flips(" + a + ")", files.flips(a), model.flips(a));
            case 2, 3 -> same("moves(" + a + ", " + g + ")", files.moves(a, g), model.moves(a, g));
            case 4, 5, 6 -> same("writes(" + g + ", " + v + ")", files.writes(g, v), model.writes(g, v));
            case 7 -> same("reads(" + g + ")", files.reads(g), model.reads(g));
            case 8, 9 -> same("mends(" + g + ")", files.mends(g), model.mends(g));
            case 10, 11 -> vote();
            case 12 -> {
                for (int i = random.nextInt(4); i >= 0; i--) same("undo()", files.undo(), model.undo());
            }
            case 13 -> image();
            case 14 -> see();
            default -> gather();
        }
    }

    /** Brings most into one GROUP, so that not all is refused. */
    private void gather() {
        int g = random.nextInt(3);
        for (int i = 0; i < model.world.sites.size(); i++) {
            if (random.nextInt(4) == 0) continue;
            if (!model.world.sites.get(i).up) same("flips(" + i + ")", files.flips(i), model.flips(i));
            if (model.world.sites.get(i).group != g) same("moves(" + i + ", " + g + ")", files.moves(i, g), model.moves(i, g));
        }
    }

    private void image() {
        int i = near(2);
        if (random.nextInt(3) > 0) {
            same("keep(" + i + ")", files.keep(i), model.keep(i));
        } else {
            same("back(" + i + ")", files.back(i), model.back(i));
        }
    }

    private void see() {
        if (random.nextInt(4) == 0) {
            same("forget()", files.forget(), model.forget());
        } else {
            int way = near(2);
            int is = near(2);
            same("sees(" + way + ", " + is + ")", files.sees(way, is), model.sees(way, is));
        }
    }

    private void askAll() {
        for (int i = -1; i <= 6; i++) {
            for (int w = -1; w <= 7; w++) same("copy(" + i + ", " + w + ")", files.copy(i, w), model.copy(i, w));
        }
        for (int g = -1; g <= 3; g++) {
            for (int w = -1; w <= 8; w++) same("group(" + g + ", " + w + ")", files.group(g, w), model.group(g, w));
        }
        for (int w = -1; w <= 8; w++) same("count(" + w + ")", files.count(w), model.count(w));
        for (int w = -1; w <= 2; w++) {
            same("unseen(" + w + ")", files.unseen(w), model.unseen(w));
            same("least(" + w + ")", files.least(w), model.least(w));
        }
        same("asked()", files.asked(), model.asked);
        int x = random.nextInt(13) - 1;
        for (int way = -1; way <= 2; way++) {
            for (int w = -1; w <= 2; w++) {
                same("chance(" + x + ", " + way + ", " + w + ")", files.chance(x, way, w), model.chance(x, way, w));
            }
        }
    }

    private void row(int length) {
        askAll();
        tell();
        for (int i = 0; i < length; i++) {
            if (random.nextInt(60) == 0) tell();
            act();
            askAll();
        }
    }

    private void texts(int many) {
        for (int i = 0; i < many; i++) tell();
    }

    /** All x and a, for each number of COPIES. */
    private void bests() {
        StringBuilder text = new StringBuilder();
        for (int n = 1; n <= 6; n++) {
            text.append("copy 1;");
            type(text + "read " + n + ";write " + n + ";");
            same("file()", files.file(), model.file());
            int step = n == 6 ? 3 : 1;
            for (int x = 0; x <= 10; x++) {
                for (int a = x % step; a <= 10; a += step) {
                    for (int w = 0; w < 3; w++) {
                        same("best(" + x + ", " + a + ", " + w + ")", files.best(x, a, w), model.best(x, a, w));
                    }
                }
            }
        }
    }

    public static void main(String[] args) {
        for (int seed = 0; seed < 300; seed++) new ModelTest(seed).row(80);
        for (int seed = 1000; seed < 1200; seed++) new ModelTest(seed).texts(60);
        new ModelTest(1).bests();
        System.out.println("ModelTest: " + answers + " answers, none wrong");
    }
}
