import java.util.ArrayDeque;
import java.util.ArrayList;
import java.util.Comparator;
import java.util.Deque;
import java.util.List;
import java.util.regex.Matcher;
import java.util.regex.Pattern;

/**
 * The document a second time, written for nothing but to be plain: lists of small objects, a whole copy before
 * each change, days ahead by letting days pass on a copy, and texts by a regular expression.
 */
final class ModelTower {
    private static final int NONE = -1;
    private static final int BAD = -2;
    private static final int REFUSED = -3;
    private static final int NOTHING = -4;
    private static final String ORDER = "(?:b\\d\\*\\d:\\d\\d?|t\\d|u\\d@\\d|d\\d|l\\d\\*\\d|g\\d\\d?|i\\d@\\d|n\\d\\d?)";
    private static final Pattern SCRIPT = Pattern.compile(ORDER + "(?:;" + ORDER + ")*");

    private static final class Bundle implements Cloneable {
        int poles;
        int age;

        @Override
        public Bundle clone() {
            Bundle copy = new Bundle();
            copy.poles = poles;
            copy.age = age;
            return copy;
        }
    }

    private static final class Storey {
        int number;
        int poles;
        int age;
        int tie;
        int work;
        int loads;
        int shutBy = -1;

        Storey copy() {
            Storey copy = new Storey();
            copy.number = number;
            copy.poles = poles;
            copy.age = age;
            copy.tie = tie;
            copy.work = work;
            copy.loads = loads;
            copy.shutBy = shutBy;
            return copy;
        }

        int strong() {
            int strong = 12 - age / 6 + poles - tie / 5 - number / 2;
            return strong < 0 ? 0 : strong;
        }

        boolean old() {
            return tie >= 21;
        }
    }

    private static final class State {
        final List<Bundle> bundles = new ArrayList<>();
        final List<Storey> storeys = new ArrayList<>();
        final List<int[]> crews = new ArrayList<>();
        final List<int[]> inspectors = new ArrayList<>();
        int strips = 60;
        int signal;
        int turns = 20;
        int day;
        int fines;
        int told;
        int done;
        int lost;
        int fallen;
        int lostPoles;

        State copy() {
            State copy = new State();
            bundles.forEach(b -> copy.bundles.add(b.clone()));
            storeys.forEach(s -> copy.storeys.add(s.copy()));
            crews.forEach(c -> copy.crews.add(c.clone()));
            inspectors.forEach(i -> copy.inspectors.add(i.clone()));
            copy.strips = strips;
            copy.signal = signal;
            copy.turns = turns;
            copy.day = day;
            copy.fines = fines;
            copy.told = told;
            copy.done = done;
            copy.lost = lost;
            copy.fallen = fallen;
            copy.lostPoles = lostPoles;
            return copy;
        }

        boolean oldUpTo(int storey) {
            return storeys.stream().anyMatch(s -> s.number <= storey && s.old());
        }

        boolean works(int[] crew) {
            if (crew[1] < 0 || oldUpTo(crew[1])) {
                return false;
            }
            Storey storey = storeys.get(crew[1]);
            return storey.work >= 1 && storey.loads >= 1;
        }

        void work(int[] crew) {
            if (works(crew)) {
                Storey storey = storeys.get(crew[1]);
                int less = storey.work;
                storey.work = storey.work > crew[0] ? storey.work - crew[0] : 0;
                less -= storey.work;
                storey.loads--;
                crew[2] += less;
                done += less;
            }
        }

        int pass() {
            crews.forEach(this::work);
            for (Storey storey : storeys) {
                storey.tie += signal >= 8 ? 4 : 1;
                storey.tie = storey.tie > 99 ? 99 : storey.tie;
            }
            int falls = 0;
            if (signal >= 8) {
                int first = storeys.stream().filter(s -> s.strong() < signal).mapToInt(s -> s.number).min().orElse(99);
                while (storeys.size() > first) {
                    Storey gone = storeys.remove(storeys.size() - 1);
                    falls++;
                    lostPoles += gone.poles;
                    lost += gone.work;
                }
            }
            fallen += falls;
            day++;
            turns = 20;
            if (day % 7 == 0) {
                bundles.forEach(b -> b.age = Math.min(60, b.age + 1));
                storeys.forEach(s -> s.age = Math.min(60, s.age + 1));
            }
            return falls;
        }
    }

    private State state = new State();
    private State saved;
    private final Deque<State> before = new ArrayDeque<>();
    private String input = "";
    private String line = "";
    private int fault = NOTHING;
    private List<int[]> reasons = new ArrayList<>();

    private interface Call {
        int go();
    }

    private int change(Call call) {
        State copy = state.copy();
        int answer = call.go();
        if (answer >= 0) {
            before.addLast(copy);
            if (before.size() > 8) {
                before.removeFirst();
            }
        }
        return answer;
    }

    private int refuse(int... numbers) {
        reasons = new ArrayList<>();
        for (int i = 0; i < numbers.length; i += 2) {
            reasons.add(new int[] {numbers[i], numbers[i + 1]});
        }
        return REFUSED;
    }

    private static boolean out(int number, int least, int most) {
        return number < least || number > most;
    }

    private boolean noStorey(int storey) {
        return out(storey, 0, state.storeys.size() - 1);
    }

    private boolean noCrew(int crew) {
        return out(crew, 0, state.crews.size() - 1);
    }

    private boolean noInspector(int inspector) {
        return out(inspector, 0, state.inspectors.size() - 1);
    }

    int clear() {
        int day = state.day;
        state = new State();
        before.clear();
        return day;
    }

    int append(char character) {
        if (out(character, 32, 126) || input.length() == 60) {
            return BAD;
        }
        input += character;
        return input.length();
    }

    int bundle(int poles, int age) {
        return change(() -> {
            if (out(poles, 1, 30) || out(age, 0, 60)) {
                return BAD;
            }
            if (state.bundles.size() == 8) {
                return refuse(1, 8);
            }
            Bundle bundle = new Bundle();
            bundle.poles = poles;
            bundle.age = age;
            state.bundles.add(bundle);
            return state.bundles.size() - 1;
        });
    }

    int strips(int many) {
        return change(() -> out(many, 1, 99) ? BAD : (state.strips = Math.min(200, state.strips + many)));
    }

    int build(int bundle, int poles, int work) {
        return change(() -> doBuild(bundle, poles, work));
    }

    private int doBuild(int bundle, int poles, int work) {
        if (out(bundle, 0, state.bundles.size() - 1)) {
            return NONE;
        }
        if (out(poles, 4, 8) || out(work, 0, 40)) {
            return BAD;
        }
        if (state.storeys.size() == 10) {
            return refuse(1, 10);
        }
        if (state.signal > 2) {
            return refuse(4, state.signal);
        }
        Bundle from = state.bundles.get(bundle);
        if (from.poles < poles) {
            return refuse(2, from.poles);
        }
        if (state.strips < 2 * poles) {
            return refuse(3, 2 * poles - state.strips);
        }
        Storey storey = new Storey();
        storey.number = state.storeys.size();
        storey.poles = poles;
        storey.age = from.age;
        storey.work = work;
        state.storeys.add(storey);
        state.told += work;
        state.strips -= 2 * poles;
        from.poles -= poles;
        return storey.number;
    }

    int tie(int storey) {
        return change(() -> doTie(storey));
    }

    private int doTie(int number) {
        if (noStorey(number)) {
            return NONE;
        }
        Storey storey = state.storeys.get(number);
        if (state.signal > 2) {
            return refuse(4, state.signal);
        }
        if (storey.tie == 0) {
            return refuse(10, number);
        }
        if (state.strips < 2 * storey.poles) {
            return refuse(3, 2 * storey.poles - state.strips);
        }
        int was = storey.tie;
        state.strips -= 2 * storey.poles;
        storey.tie = 0;
        storey.shutBy = -1;
        return was;
    }

    int crew(int skill) {
        return change(() -> {
            if (out(skill, 1, 4)) {
                return BAD;
            }
            if (state.crews.size() == 5) {
                return refuse(1, 5);
            }
            state.crews.add(new int[] {skill, NOTHING, 0});
            return state.crews.size() - 1;
        });
    }

    int up(int crew, int storey) {
        return change(() -> doUp(crew, storey));
    }

    private int doUp(int crew, int storey) {
        if (noCrew(crew) || noStorey(storey)) {
            return NONE;
        }
        if (state.crews.get(crew)[1] == storey) {
            return refuse(7, storey);
        }
        if (state.signal > 2) {
            return refuse(4, state.signal);
        }
        for (int i = 0; i <= storey; i++) {
            if (state.storeys.get(i).old()) {
                return refuse(5, i);
            }
        }
        if (state.storeys.get(storey).shutBy >= 0) {
            return refuse(6, storey, 13, state.storeys.get(storey).shutBy);
        }
        state.crews.get(crew)[1] = storey;
        return crewsOn(storey);
    }

    private int crewsOn(int storey) {
        return (int) state.crews.stream().filter(c -> c[1] == storey).count();
    }

    int down(int crew) {
        return change(() -> doDown(crew));
    }

    private int doDown(int crew) {
        if (noCrew(crew)) {
            return NONE;
        }
        int was = state.crews.get(crew)[1];
        if (was < 0) {
            return refuse(11, crew);
        }
        state.crews.get(crew)[1] = NOTHING;
        return was;
    }

    int lift(int storey, int loads) {
        return change(() -> doLift(storey, loads));
    }

    private int doLift(int number, int loads) {
        if (noStorey(number)) {
            return NONE;
        }
        if (out(loads, 1, 9)) {
            return BAD;
        }
        if (state.signal > 2) {
            return refuse(4, state.signal);
        }
        Storey storey = state.storeys.get(number);
        if (storey.loads + loads > 9) {
            return refuse(9, storey.loads);
        }
        if (loads * (number + 1) > state.turns) {
            return refuse(8, state.turns);
        }
        storey.loads += loads;
        state.turns -= loads * (number + 1);
        return state.turns;
    }

    int signal(int signal) {
        return change(() -> doSignal(signal));
    }

    private int doSignal(int signal) {
        if (out(signal, 0, 10)) {
            return BAD;
        }
        int was = state.signal;
        state.signal = signal;
        if (signal > 2) {
            state.crews.forEach(c -> c[1] = NOTHING);
        }
        return was;
    }

    int inspector(int nose) {
        return change(() -> {
            if (out(nose, 1, 9)) {
                return BAD;
            }
            if (state.inspectors.size() == 3) {
                return refuse(1, 3);
            }
            state.inspectors.add(new int[] {nose, 0});
            return state.inspectors.size() - 1;
        });
    }

    int inspect(int inspector, int storey) {
        return change(() -> doInspect(inspector, storey));
    }

    private int doInspect(int inspector, int number) {
        if (noInspector(inspector) || noStorey(number)) {
            return NONE;
        }
        if (state.signal > 2) {
            return refuse(4, state.signal);
        }
        int[] who = state.inspectors.get(inspector);
        Storey storey = state.storeys.get(number);
        if (storey.tie + who[0] < 21) {
            return 0;
        }
        storey.shutBy = storey.shutBy < 0 ? inspector : storey.shutBy;
        state.crews.stream().filter(c -> c[1] == number).forEach(c -> c[1] = NOTHING);
        state.fines += who[0];
        who[1]++;
        return 1;
    }

    int day(int days) {
        return change(() -> doDay(days));
    }

    private int doDay(int days) {
        if (out(days, 1, 30)) {
            return BAD;
        }
        int falls = 0;
        for (int i = 0; i < days; i++) {
            falls += state.pass();
        }
        return falls;
    }

    int script() {
        String text = input;
        input = "";
        if (!SCRIPT.matcher(text).matches()) {
            fault = faultOf(text);
            return BAD;
        }
        State copy = state.copy();
        return change(() -> {
            String[] orders = text.split(";");
            for (int i = 0; i < orders.length; i++) {
                int answer = obey(orders[i]);
                if (answer < 0) {
                    state = copy;
                    if (answer != REFUSED) {
                        reasons = new ArrayList<>();
                    }
                    reasons.add(0, new int[] {12, i});
                    return REFUSED;
                }
            }
            return orders.length;
        });
    }

    private static int faultOf(String text) {
        for (int i = 1; i <= text.length(); i++) {
            Matcher matcher = SCRIPT.matcher(text.substring(0, i));
            if (!matcher.matches() && !matcher.hitEnd()) {
                return i - 1;
            }
        }
        return text.length();
    }

    private int obey(String order) {
        String[] words = order.substring(1).split("[*@:]");
        int[] n = new int[3];
        for (int i = 0; i < words.length; i++) {
            n[i] = Integer.parseInt(words[i]);
        }
        switch (order.charAt(0)) {
            case 'b':
                return doBuild(n[0], n[1], n[2]);
            case 't':
                return doTie(n[0]);
            case 'u':
                return doUp(n[0], n[1]);
            case 'd':
                return doDown(n[0]);
            case 'l':
                return doLift(n[0], n[1]);
            case 'g':
                return doSignal(n[0]);
            case 'i':
                return doInspect(n[0], n[1]);
            default:
                return doDay(n[0]);
        }
    }

    int fault() {
        return fault;
    }

    int reason(int depth, boolean isDetail) {
        if (depth < 0) {
            return BAD;
        }
        return depth < reasons.size() ? reasons.get(depth)[isDetail ? 1 : 0] : NOTHING;
    }

    int bundleOf(int bundle, boolean isAge) {
        if (out(bundle, 0, state.bundles.size() - 1)) {
            return NONE;
        }
        return isAge ? state.bundles.get(bundle).age : state.bundles.get(bundle).poles;
    }

    int storeyOf(int number, int what) {
        if (noStorey(number)) {
            return NONE;
        }
        Storey s = state.storeys.get(number);
        int bits = 0;
        for (int i = 0; i < state.crews.size(); i++) {
            bits += state.crews.get(i)[1] == number ? (int) Math.pow(2, i) : 0;
        }
        int[] told = {s.poles, s.age, s.tie, s.work, s.loads, s.shutBy >= 0 ? 1 : 0, bits};
        return out(what, 0, 6) ? BAD : told[what];
    }

    int strength(int storey, boolean isAgain) {
        return noStorey(storey) ? NONE : state.storeys.get(storey).strong();
    }

    int weakest() {
        return state.storeys.stream().min(Comparator.comparingInt(Storey::strong)).map(s -> s.number).orElse(NOTHING);
    }

    int oldest(int place) {
        List<Storey> sorted = new ArrayList<>(state.storeys);
        sorted.sort(Comparator.comparingInt((Storey s) -> -s.tie).thenComparingInt(s -> -s.number));
        return out(place, 0, sorted.size() - 1) ? NONE : sorted.get(place).number;
    }

    int crewOf(int crew, int what) {
        if (noCrew(crew)) {
            return NONE;
        }
        if (out(what, 0, 3)) {
            return BAD;
        }
        int[] c = state.crews.get(crew);
        if (what == 2) {
            State copy = state.copy();
            copy.pass();
            // It worked if it did more hours then: work that is done is at least one hour.
            return copy.crews.get(crew)[2] > c[2] ? 1 : 0;
        }
        return what == 3 ? c[2] : c[what];
    }

    int inspectorOf(int inspector, int what) {
        if (noInspector(inspector)) {
            return NONE;
        }
        if (out(what, 0, 2)) {
            return BAD;
        }
        if (what == 1) {
            return (int) state.storeys.stream().filter(s -> s.shutBy == inspector).count();
        }
        return state.inspectors.get(inspector)[what / 2];
    }

    int highest() {
        for (int i = state.storeys.size() - 1; i >= 0; i--) {
            if (state.signal < 3 && !state.oldUpTo(i) && state.storeys.get(i).shutBy < 0) {
                return i;
            }
        }
        return NOTHING;
    }

    int wouldFall(int signal) {
        if (out(signal, 8, 10)) {
            return BAD;
        }
        return state.storeys.stream().filter(s -> s.strong() < signal).map(s -> s.number).findFirst().orElse(NOTHING);
    }

    int oldIn(int storey) {
        if (noStorey(storey)) {
            return NONE;
        }
        State copy = state.copy();
        int days = 0;
        while (copy.storeys.size() > storey && !copy.storeys.get(storey).old()) {
            copy.pass();
            days++;
        }
        return copy.storeys.size() > storey ? days : NOTHING;
    }

    int doneIn(int storey) {
        if (noStorey(storey)) {
            return NONE;
        }
        State copy = state.copy();
        int days = 0;
        while (days < 60 && copy.storeys.size() > storey && copy.storeys.get(storey).work > 0) {
            copy.pass();
            days++;
        }
        return copy.storeys.size() > storey && copy.storeys.get(storey).work == 0 ? days : NOTHING;
    }

    int describe() {
        List<String> parts = new ArrayList<>();
        for (Storey s : state.storeys) {
            parts.add(0, s.number + ":" + s.poles + "p" + s.tie + (s.shutBy >= 0 ? "#" : "") + "*".repeat(crewsOn(s.number))
                + (s.work > 0 ? "w" + s.work : ""));
        }
        line = parts.isEmpty() ? "bare" : String.join(" ", parts);
        return line.length();
    }

    int written(int index) {
        return out(index, 0, line.length() - 1) ? NONE : line.charAt(index);
    }

    int work(boolean isAgain) {
        return isAgain ? state.told - state.done - state.lost : state.storeys.stream().mapToInt(s -> s.work).sum();
    }

    float meanStrength() {
        int sum = state.storeys.stream().mapToInt(Storey::strong).sum();
        return state.storeys.isEmpty() ? 0.0f : (float) sum / (float) state.storeys.size();
    }

    double doneShare() {
        return state.told == 0 ? 0.0 : (double) state.done / (double) state.told;
    }

    int account(int what) {
        int[] told = {state.day, state.signal, state.bundles.size(), state.bundles.stream().mapToInt(b -> b.poles).sum(),
            state.storeys.size(), (int) state.storeys.stream().filter(s -> s.shutBy >= 0).count(),
            (int) state.storeys.stream().filter(Storey::old).count(), state.crews.size(),
            (int) state.crews.stream().filter(c -> c[1] >= 0).count(), state.strips, state.turns,
            state.storeys.stream().mapToInt(s -> s.loads).sum(), state.inspectors.size(), state.fines,
            state.crews.stream().mapToInt(c -> c[2]).sum(), state.fallen, state.lostPoles, input.length(), before.size()};
        return out(what, 0, 18) ? BAD : told[what];
    }

    int undo() {
        if (before.isEmpty()) {
            return NOTHING;
        }
        state = before.removeLast();
        return before.size();
    }

    int save() {
        saved = state.copy();
        return state.day;
    }

    int restore() {
        if (saved == null) {
            return NOTHING;
        }
        state = saved.copy();
        before.clear();
        return state.day;
    }
}
