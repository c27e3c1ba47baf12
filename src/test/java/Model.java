import java.util.ArrayList;
import java.util.Comparator;
import java.util.HashMap;
import java.util.HashSet;
import java.util.LinkedHashMap;
import java.util.LinkedHashSet;
import java.util.List;
import java.util.Map;
import java.util.Optional;
import java.util.Set;
import java.util.TreeMap;
import java.util.regex.Matcher;
import java.util.regex.Pattern;

/**
 * The document a second time, by sets and lists and without a thought for speed: what the class answers is
 * asked of this one as well. Texts are kept as they were told and taken apart each time they are needed.
 */
final class Model {
    private static final Pattern LAND_LINE = Pattern.compile("(.)(\\d+),(\\d+):(\\d+)x(\\d+)(?:=(\\d+))?");

    /** A CREATURE's LINE: its STEPS written out and where it is at each time. */
    private record Trail(int from, String steps, List<Integer> places) {
        int last() {
            return from + steps.length();
        }

        int at(int time) {
            return time < from || time > last() ? -2 : places.get(time - from);
        }
    }

    private record Scent(int creature, int place, int time, int age, int strength) {
    }

    private record Hound(int place, int time, int faults, int state) {
    }

    /** All that is kept and undone. */
    private record State(Map<Integer, Hound> hounds, int time, int drawn) {
    }

    private final List<Integer> tape = new ArrayList<>();
    private final TreeMap<Integer, Trail> trails = new TreeMap<>();
    private String land = "";
    private String law = "";
    private int fading = 1;
    private State now = new State(new TreeMap<>(), 0, 1);
    private State kept = null;

    private static boolean within(int number, int least, int most) {
        return number >= least && number <= most;
    }

    private static boolean onLand(int x, int y) {
        return within(x, 0, 15) && within(y, 0, 11);
    }

    private static int across(int place, int other) {
        return Math.abs(place % 16 - other % 16);
    }

    private static int along(int place, int other) {
        return Math.abs(place / 16 - other / 16);
    }

    private static int steps(int place, int other) {
        return across(place, other) + along(place, other);
    }

    private static int bits(Set<Integer> numbers) {
        return numbers.stream().mapToInt(n -> 1 << n).sum();
    }

    boolean hound(int h, int x, int y) {
        if (!within(h, 0, 5) || !onLand(x, y)) {
            return false;
        }
        Map<Integer, Hound> hounds = new TreeMap<>(now.hounds);
        hounds.put(h, new Hound(16 * y + x, 10000, 0, 0));
        now = new State(hounds, now.time, now.drawn);
        return true;
    }

    boolean fading(int f) {
        fading = within(f, 0, 9) ? f : fading;
        return within(f, 0, 9);
    }

    boolean time(int t) {
        if (!within(t, now.time, 9999)) {
            return false;
        }
        now = new State(now.hounds, t, now.drawn);
        return true;
    }

    int feed(int... words) {
        if (tape.size() == 260) {
            return -1;
        }
        for (int word : words) {
            for (byte part : java.nio.ByteBuffer.allocate(4).putInt(word).array()) {
                tape.add(Byte.toUnsignedInt(part));
            }
        }
        return tape.size();
    }

    /** The first n bytes, the tape being empty then. */
    private String taken(int n) {
        StringBuilder text = new StringBuilder();
        for (int sign : tape.subList(0, n)) {
            text.append((char) sign);
        }
        tape.clear();
        return text.toString();
    }

    int law(int n) {
        if (!within(n, 1, 240) || n > tape.size()) {
            return -1;
        }
        String text = taken(n);
        int answer = Grammar.law(text);
        law = answer > 0 ? text : law;
        return answer;
    }

    int line(int c, int x, int y, int from, int n) {
        if (!within(c, 0, 7) || !onLand(x, y) || !within(from, 0, 9999) || !within(n, 1, 60) || n > tape.size()) {
            return -1;
        }
        String text = taken(n);
        int answer = Grammar.line(text);
        if (answer > 0) {
            trails.put(c, trail(x, y, from, writtenOut(text)));
        }
        return answer;
    }

    private static String writtenOut(String text) {
        Pattern innermost = Pattern.compile("([2-9]?)(?:([urdl.])|\\(([A-Z]+)\\))");
        String rest = text;
        while (!rest.matches("[A-Z]+")) {
            rest = innermost.matcher(rest).replaceAll(found -> {
                String once = found.group(2) != null ? found.group(2).replace('.', 's').toUpperCase() : found.group(3);
                return once.repeat(found.group(1).isEmpty() ? 1 : Integer.parseInt(found.group(1)));
            });
        }
        return rest;
    }

    private static Trail trail(int x, int y, int from, String steps) {
        List<Integer> places = new ArrayList<>(List.of(16 * y + x));
        int column = x;
        int row = y;
        for (char step : steps.toCharArray()) {
            column = Math.max(0, Math.min(15, column + (step == 'R' ? 1 : 0) - (step == 'L' ? 1 : 0)));
            row = Math.max(0, Math.min(11, row + (step == 'D' ? 1 : 0) - (step == 'U' ? 1 : 0)));
            places.add(16 * row + column);
        }
        return new Trail(from, steps, places);
    }

    int land(int n) {
        if (!within(n, 1, 160) || n > tape.size()) {
            return -1;
        }
        String text = taken(n);
        int answer = Grammar.land(text);
        land = answer > 0 ? text : land;
        return answer;
    }

    /** The LINE of LAND that lies on top at a PLACE. */
    private Optional<Matcher> top(int place) {
        Optional<Matcher> top = Optional.empty();
        for (String text : land.isEmpty() ? new String[0] : land.split(";")) {
            Matcher line = LAND_LINE.matcher(text);
            line.matches();
            int x = place % 16 - Integer.parseInt(line.group(2));
            int y = place / 16 - Integer.parseInt(line.group(3));
            if (x >= 0 && y >= 0 && x < Integer.parseInt(line.group(4)) && y < Integer.parseInt(line.group(5))) {
                top = Optional.of(line);
            }
        }
        return top;
    }

    private char signAt(int place) {
        return top(place).map(line -> line.group(1).charAt(0)).orElse(' ');
    }

    int landAt(int x, int y) {
        if (!onLand(x, y)) {
            return -1;
        }
        char sign = signAt(16 * y + x);
        return sign == ' ' ? 0 : sign == '~' ? 1 : 2 + sign - 'a';
    }

    private List<Scent> scents(int time) {
        List<Scent> scents = new ArrayList<>();
        trails.forEach((c, trail) -> {
            for (int t = trail.from; t <= Math.min(time, trail.last()); t++) {
                int strength = 99 - (time - t) * fading;
                if (strength > 0 && signAt(trail.at(t)) != '~') {
                    scents.add(new Scent(c, trail.at(t), t, time - t, strength));
                }
            }
        });
        return scents;
    }

    private State moment(State state) {
        if (state.time == 9999) {
            return state;
        }
        List<Scent> scents = scents(state.time);
        Map<Integer, Hound> hounds = new TreeMap<>(state.hounds);
        int drawn = state.drawn;
        for (int h : state.hounds.keySet()) {
            Hound hound = hounds.get(h);
            if (hound.state != 0) {
                continue;
            }
            Map<Character, Integer> letters = letters(h, hounds, state.time, hound.place);
            if (LawModel.givesUp(law, letters)) {
                hounds.put(h, new Hound(hound.place, hound.time, hound.faults, 2));
                continue;
            }
            drawn = (int) ((25173L * drawn + 13849) % 65536);
            boolean strays = drawn % 10 < LawModel.worth(law, 'r', letters, 10);
            Optional<Hound> there = strays ? Optional.empty() : follow(h, hounds, scents, state.time);
            int faults = hound.faults + 1;
            hounds.put(h, there.orElse(new Hound(hound.place, hound.time, faults, faults == 9 ? 2 : 0)));
        }
        return new State(hounds, state.time + 1, drawn);
    }

    private static Map<Character, Integer> letters(int h, Map<Integer, Hound> hounds, int time, int place) {
        Map<Character, Integer> letters = new HashMap<>();
        for (char letter : "casg".toCharArray()) {
            letters.put(letter, 0);
        }
        letters.put('h', h);
        letters.put('f', hounds.get(h).faults);
        letters.put('n', (int) hounds.values().stream().filter(other -> other.place == place).count());
        letters.put('t', time % 100);
        return letters;
    }

    private Optional<Hound> follow(int h, Map<Integer, Hound> hounds, List<Scent> scents, int time) {
        Hound hound = hounds.get(h);
        Map<Scent, Integer> likings = new LinkedHashMap<>();
        for (Scent scent : scents) {
            if (scent.time >= hound.time || steps(scent.place, hound.place) > 1) {
                continue;
            }
            Map<Character, Integer> letters = letters(h, hounds, time, scent.place);
            letters.put('c', scent.creature);
            letters.put('a', scent.age);
            letters.put('s', scent.strength);
            letters.put('g', hound.time - scent.time);
            int liking = LawModel.worth(law, 'e', letters, 9999);
            if (liking > 0) {
                likings.put(scent, liking);
            }
        }
        List<Integer> ways = List.of(0, -16, 1, 16, -1);
        Comparator<Scent> order = Comparator.comparing((Scent scent) -> -likings.get(scent))
            .thenComparing(scent -> -scent.time)
            .thenComparing(scent -> ways.indexOf(scent.place - hound.place))
            .thenComparing(Scent::creature);
        return likings.keySet().stream().min(order).map(scent -> {
            boolean isHome = trails.get(scent.creature).from == scent.time;
            return new Hound(scent.place, scent.time, hound.faults, isHome ? 1 : 0);
        });
    }

    private State behind(int n) {
        State state = now;
        for (int i = 0; i < n; i++) {
            state = moment(state);
        }
        return state;
    }

    private static Set<Integer> those(State state, int what) {
        Set<Integer> those = new HashSet<>();
        state.hounds.forEach((h, hound) -> {
            if (hound.state == what) {
                those.add(h);
            }
        });
        return those;
    }

    int moments(int n) {
        if (!within(n, 1, 100)) {
            return -1;
        }
        now = behind(n);
        return those(now, 0).size();
    }

    int tried(int n, int what) {
        if (!within(n, 1, 100)) {
            return -1;
        }
        if (within(what, 0, 2)) {
            return bits(those(behind(n), what));
        }
        if (!within(what / 10, 1, 3) || !now.hounds.containsKey(what % 10)) {
            return -1;
        }
        Hound hound = behind(n).hounds.get(what % 10);
        return List.of(hound.place, hound.time, hound.faults).get(what / 10 - 1);
    }

    int houndIs(int h, int what) {
        if (!now.hounds.containsKey(h) || !within(what, 0, 3)) {
            return -1;
        }
        Hound hound = now.hounds.get(h);
        return List.of(hound.place, hound.time, hound.faults, hound.state).get(what);
    }

    int where(int c, int t) {
        return trails.containsKey(c) && within(t, 0, 20000) ? trails.get(c).at(t) : -1;
    }

    int freshest(int x, int y, int what) {
        if (!onLand(x, y) || !within(what, 0, 2)) {
            return -1;
        }
        List<Scent> here = scents(now.time).stream().filter(scent -> scent.place == 16 * y + x).toList();
        if (what == 2) {
            return here.size();
        }
        Comparator<Scent> order = Comparator.comparing((Scent scent) -> -scent.time).thenComparing(Scent::creature);
        return here.stream().min(order).map(scent -> what == 0 ? scent.time : scent.creature).orElse(-2);
    }

    int firstHome(int n, int what) {
        if (!within(n, 1, 100) || !within(what, 0, 1)) {
            return -1;
        }
        for (int i = 0; i <= n; i++) {
            Set<Integer> home = those(behind(i), 1);
            if (!home.isEmpty()) {
                return what == 0 ? i : home.stream().min(Comparator.naturalOrder()).get();
            }
        }
        return -2;
    }

    private boolean areTwo(int c, int d) {
        return c != d && trails.containsKey(c) && trails.containsKey(d);
    }

    /** How far two are apart at each time at which both are there. */
    private TreeMap<Integer, Integer> apart(int c, int d) {
        TreeMap<Integer, Integer> apart = new TreeMap<>();
        for (int t = 0; t < 10200; t++) {
            if (trails.get(c).at(t) >= 0 && trails.get(d).at(t) >= 0) {
                apart.put(t, steps(trails.get(c).at(t), trails.get(d).at(t)));
            }
        }
        return apart;
    }

    int two(int c, int d, int what) {
        if (!areTwo(c, d) || !within(what, 0, 3)) {
            return -1;
        }
        if (what == 0) {
            Set<Integer> both = new HashSet<>(trails.get(c).places);
            both.retainAll(trails.get(d).places);
            return both.size();
        }
        TreeMap<Integer, Integer> apart = apart(c, d);
        if (apart.isEmpty()) {
            return -2;
        }
        int near = apart.values().stream().min(Comparator.naturalOrder()).get();
        int when = apart.keySet().stream().filter(t -> apart.get(t) == near).findFirst().get();
        return what == 1 ? (near == 0 ? when : -2) : what == 2 ? near : when;
    }

    int together(int c, int d, int far) {
        if (!areTwo(c, d) || !within(far, 0, 26)) {
            return -1;
        }
        return (int) apart(c, d).values().stream().filter(steps -> steps <= far).count();
    }

    int crowd(int t, int what) {
        if (!within(t, 0, 20000) || !within(what, 0, 1)) {
            return -1;
        }
        int[] many = new int[192];
        trails.values().stream().filter(trail -> trail.at(t) >= 0).forEach(trail -> many[trail.at(t)]++);
        int place = -2;
        int most = 0;
        for (int i = 0; i < 192; i++) {
            if (many[i] > most) {
                place = i;
                most = many[i];
            }
        }
        return what == 0 ? place : most;
    }

    int stayed(int c, int what) {
        if (!trails.containsKey(c) || !within(what, 0, 2)) {
            return -1;
        }
        List<Integer> places = trails.get(c).places;
        Map<Integer, Integer> times = new LinkedHashMap<>();
        places.forEach(place -> times.merge(place, 1, Integer::sum));
        int most = times.values().stream().max(Comparator.naturalOrder()).get();
        if (what == 1) {
            return most;
        }
        if (what == 0) {
            return times.keySet().stream().filter(place -> times.get(place) == most).findFirst().get();
        }
        return (int) times.keySet().stream().filter(place ->
            places.subList(places.indexOf(place), places.lastIndexOf(place)).stream().anyMatch(p -> !p.equals(place)))
            .count();
    }

    int unlooped(int c, int what) {
        if (!trails.containsKey(c) || what != 100 && !within(what, 0, 96)) {
            return -1;
        }
        List<Integer> row = new ArrayList<>();
        for (int place : trails.get(c).places) {
            if (row.contains(place)) {
                row = new ArrayList<>(row.subList(0, row.indexOf(place)));
            }
            row.add(place);
        }
        return what == 100 ? row.size() : what < row.size() ? row.get(what) : -4;
    }

    int charges(int c, int what) {
        if (!trails.containsKey(c) || !within(what, 0, 2)) {
            return -1;
        }
        int[] paid = new int[8];
        for (int place : trails.get(c).places) {
            top(place).filter(line -> line.group(6) != null)
                .ifPresent(line -> paid[line.group(1).charAt(0) - 'a'] += Integer.parseInt(line.group(6)));
        }
        int all = 0;
        int dearest = 0;
        for (int field = 0; field < 8; field++) {
            all += paid[field];
            dearest = paid[field] > paid[dearest] ? field : dearest;
        }
        return what == 0 ? all : what == 2 ? paid[dearest] : all == 0 ? -2 : dearest;
    }

    /** The PLACES that can be come to from some by at most so many steps without touching others. */
    private static Set<Integer> reached(Set<Integer> from, Set<Integer> closed, int steps) {
        Set<Integer> reached = new LinkedHashSet<>(from);
        reached.removeAll(closed);
        for (int i = 0; i < steps; i++) {
            Set<Integer> more = new HashSet<>(reached);
            for (int place = 0; place < 192; place++) {
                int there = place;
                if (!closed.contains(place) && reached.stream().anyMatch(p -> steps(p, there) == 1)) {
                    more.add(place);
                }
            }
            if (more.size() == reached.size()) {
                return reached;
            }
            reached = more;
        }
        return reached;
    }

    int round(int from, int to) {
        if (!within(from, 0, 191) || !within(to, 0, 191)) {
            return -1;
        }
        Set<Integer> water = new HashSet<>();
        for (int place = 0; place < 192; place++) {
            if (signAt(place) == '~') {
                water.add(place);
            }
        }
        Set<Integer> reached = reached(Set.of(from), water, 0);
        for (int steps = 0; !reached.isEmpty(); steps++) {
            if (reached.contains(to)) {
                return steps;
            }
            Set<Integer> more = reached(reached, water, 1);
            if (more.size() == reached.size()) {
                return -2;
            }
            reached = more;
        }
        return -2;
    }

    int cast(int h) {
        if (!now.hounds.containsKey(h)) {
            return -1;
        }
        Hound hound = now.hounds.get(h);
        return scents(now.time).stream().filter(scent -> scent.time < hound.time)
            .map(scent -> Math.max(across(scent.place, hound.place), along(scent.place, hound.place)))
            .min(Comparator.naturalOrder()).orElse(-2);
    }

    int huntable(int s) {
        if (!within(s, 1, 99)) {
            return -1;
        }
        return (int) scents(now.time).stream().filter(scent -> scent.strength >= s)
            .map(Scent::place).distinct().count();
    }

    int couldBe(int n, int off) {
        if (!within(n, 1, 10) || !within(off, 0, 99) || tape.size() < 3 * n) {
            return -1;
        }
        String finds = taken(3 * n);
        Set<Integer> could = new HashSet<>(trails.keySet());
        for (int i = 0; i < n; i++) {
            int place = finds.charAt(3 * i);
            int time = finds.charAt(3 * i + 1) + 256 * finds.charAt(3 * i + 2);
            if (place > 191) {
                return -2;
            }
            could.removeIf(c -> {
                for (int t = time - off; t <= time + off; t++) {
                    if (trails.get(c).at(t) == place) {
                        return false;
                    }
                }
                return true;
            });
        }
        return bits(could);
    }

    int heldIn(int c) {
        if (!trails.containsKey(c)) {
            return -1;
        }
        Set<Integer> line = new HashSet<>(trails.get(c).places);
        Set<Integer> edge = new HashSet<>();
        for (int place = 0; place < 192; place++) {
            if (place < 16 || place >= 176 || place % 16 == 0 || place % 16 == 15) {
                edge.add(place);
            }
        }
        return 192 - line.size() - reached(edge, line, 192).size();
    }

    int lineIs(int c, int what) {
        if (!trails.containsKey(c) || !within(what, 0, 7)) {
            return -1;
        }
        Trail trail = trails.get(c);
        String moves = trail.steps.replace("S", "");
        switch (what) {
            case 0:
                return trail.steps.length();
            case 1:
                return moves.isEmpty() ? 0 : moves.replaceAll("(.)\\1*", "$1").length() - 1;
            case 2:
                return Pattern.compile("(.)\\1*").matcher(moves).results().mapToInt(run -> run.group().length())
                    .max().orElse(0);
            case 3:
                int after = 1;
                while (!trail.steps.substring(0, after).repeat(96).startsWith(trail.steps)) {
                    after++;
                }
                return after;
            case 4:
                return trail.from;
            case 5:
                return new HashSet<>(trail.places).size();
            case 6:
                return trail.last();
            default:
                return trail.at(trail.last());
        }
    }

    boolean seed(int x) {
        if (!within(x, 0, 65535)) {
            return false;
        }
        now = new State(now.hounds, now.time, x);
        return true;
    }

    int keep() {
        kept = now;
        return now.time;
    }

    boolean undo() {
        now = kept == null ? now : kept;
        return kept != null;
    }

    int check(int n) {
        if (!within(n, 0, 6) || n > tape.size()) {
            return -2;
        }
        String told = taken(n);
        for (int h = 0; h < n; h++) {
            if (told.charAt(h) != (now.hounds.containsKey(h) ? now.hounds.get(h).faults : 255)) {
                return h;
            }
        }
        return -1;
    }

    int count(int what) {
        switch (what) {
            case 0:
                return now.time;
            case 1:
                return bits(now.hounds.keySet());
            case 2:
                return bits(those(now, 0));
            case 3:
                return bits(trails.keySet());
            case 4:
                return fading;
            case 5:
                return land.isEmpty() ? 0 : land.split(";").length;
            case 6:
                return law.isEmpty() ? 0 : law.split(";").length;
            case 7:
                return tape.size();
            case 8:
                return now.drawn;
            default:
                return -1;
        }
    }
}
