import java.util.LinkedHashMap;
import java.util.Map;
import java.util.TreeSet;

/** All that can be asked of a tower without a change of it, the written line included. */
final class View {
    private static final int ACCOUNTS = 19;
    private static final int DEPTHS = 4;
    private static final int CALLS_FOR_HOW_MANY = 4;
    /** Far above the longest line. */
    private static final int MOST_WRITTEN = 200;

    private final Map<String, Double> scaffold = new LinkedHashMap<>();
    private final Map<String, Double> reasonsAndFault = new LinkedHashMap<>();

    View(BambooTower tower) {
        for (int what = 0; what < ACCOUNTS; what++) {
            see("account " + what, tower.account(what));
        }
        bundles(tower);
        storeys(tower);
        crews(tower);
        inspectors(tower);
        see("work", tower.work(true));
        see("share", tower.doneShare());
        int code = 0;
        for (int index = 0; code != BambooTower.NONE && index <= MOST_WRITTEN; index++) {
            code = tower.written(index);
            see("sign " + index, code);
        }
        reasonsAndFault.put("fault", (double) tower.fault());
        for (int depth = 0; depth < DEPTHS; depth++) {
            reasonsAndFault.put("reason " + depth, (double) tower.reason(depth, false));
            reasonsAndFault.put("detail " + depth, (double) tower.reason(depth, true));
        }
    }

    int calls() {
        return scaffold.size() + reasonsAndFault.size() + CALLS_FOR_HOW_MANY;
    }

    /** Empty if there is none. */
    String differences(View then, boolean withReasonsAndFault) {
        StringBuilder found = new StringBuilder();
        compare(found, scaffold, then.scaffold);
        if (withReasonsAndFault) {
            compare(found, reasonsAndFault, then.reasonsAndFault);
        }
        return found.toString();
    }

    private static void compare(StringBuilder found, Map<String, Double> now, Map<String, Double> then) {
        TreeSet<String> names = new TreeSet<>(now.keySet());
        names.addAll(then.keySet());
        for (String name : names) {
            if (!String.valueOf(now.get(name)).equals(String.valueOf(then.get(name)))) {
                found.append(name).append(" was ").append(then.get(name)).append(" and is ").append(now.get(name)).append("; ");
            }
        }
    }

    private void see(String name, double answer) {
        scaffold.put(name, answer);
    }

    private void bundles(BambooTower tower) {
        int many = tower.account(2);
        for (int bundle = 0; bundle < many; bundle++) {
            see("poles of bundle " + bundle, tower.bundleOf(bundle, false));
            see("weeks of bundle " + bundle, tower.bundleOf(bundle, true));
        }
    }

    private void storeys(BambooTower tower) {
        int many = tower.account(4);
        for (int storey = 0; storey < many; storey++) {
            for (int what = 0; what < 7; what++) {
                see("storey " + storey + "." + what, tower.storeyOf(storey, what));
            }
        }
    }

    private void crews(BambooTower tower) {
        int many = tower.account(7);
        for (int crew = 0; crew < many; crew++) {
            for (int what = 0; what < 4; what++) {
                see("crew " + crew + "." + what, tower.crewOf(crew, what));
            }
        }
    }

    private void inspectors(BambooTower tower) {
        int many = tower.account(12);
        for (int inspector = 0; inspector < many; inspector++) {
            for (int what = 0; what < 3; what++) {
                see("inspector " + inspector + "." + what, tower.inspectorOf(inspector, what));
            }
        }
    }
}
