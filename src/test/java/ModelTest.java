/** Long runs of calls, the same each time, on the class and on the model: all answers are the same. */
public final class ModelTest {
    private static final int RUNS = 3000;
    /** No more is promised of an object. */
    private static final int CALLS = 512;
    private static final int CALLS_OF_A_STEP = 80;
    private static final int CALLS_OF_A_SWEEP = 220;
    private static final int[] ODD = {-2147483648, -7, -1, 10, 11, 31, 41, 61, 99, 100, 2147483647};

    private final BambooTower tower = new BambooTower();
    private final ModelTower model = new ModelTower();
    private final String title;
    /** Runs differ in how often odd numbers, storms, days, texts and whole towers come. */
    private final int kind;
    private long seed;
    private int calls = 0;

    private ModelTest(int run) {
        title = "run " + run;
        kind = run % 6;
        seed = 77_777L * run + 12_345;
    }

    public static void main(String[] args) {
        for (int run = 0; run < RUNS; run++) {
            new ModelTest(run).go(run % 7 == 0);
        }
        Notation.end("ModelTest");
    }

    private void go(boolean hasSweep) {
        int most = CALLS - CALLS_OF_A_STEP - (hasSweep ? CALLS_OF_A_SWEEP : 0);
        while (calls < most) {
            step(next(100));
        }
        if (hasSweep) {
            sweep();
        }
        Notation.due(title + " made at most 512 calls", calls <= CALLS ? 1 : 0, 1);
    }

    private int next(int bound) {
        seed = seed * 6364136223846793005L + 1442695040888963407L;
        return (int) ((seed >>> 33) % bound);
    }

    private int from(int least, int most) {
        return next(kind == 0 ? 12 : 60) == 0 ? ODD[next(ODD.length)] : least + next(most - least + 1);
    }

    private boolean flip() {
        return next(2) == 0;
    }

    private int storey() {
        int many = model.account(4);
        return next(8) == 0 || many == 0 ? from(0, 10) : next(many);
    }

    private int signalNumber() {
        return next(kind == 1 ? 2 : 5) == 0 ? from(0, 10) : from(0, 2);
    }

    private int days() {
        return next(4) == 0 ? from(1, 30) : from(1, 3);
    }

    private void same(String call, double got, double want) {
        calls++;
        Notation.due(title + " " + call, got, want);
    }

    private void step(int which) {
        if (which < 55) {
            change(which);
        } else if (which < 63) {
            text();
        } else {
            ask(which % 19);
        }
    }

    private void change(int which) {
        int a = storey();
        int b = from(0, 4);
        if (which < 4) {
            int poles = flip() ? 30 : from(1, 30);
            int age = from(0, 60);
            same("bundle(" + poles + ", " + age + ")", tower.bundle(poles, age), model.bundle(poles, age));
        } else if (which < 7) {
            int many = from(1, 99);
            same("strips(" + many + ")", tower.strips(many), model.strips(many));
        } else if (which < 15) {
            int bundle = from(0, 7);
            int poles = from(4, 8);
            int work = from(0, 40);
            same("build(" + bundle + ", " + poles + ", " + work + ")", tower.build(bundle, poles, work), model.build(bundle, poles, work));
        } else if (which < 20) {
            same("tie(" + a + ")", tower.tie(a), model.tie(a));
        } else if (which < 22) {
            int skill = from(1, 4);
            same("crew(" + skill + ")", tower.crew(skill), model.crew(skill));
        } else if (which < 29) {
            same("up(" + b + ", " + a + ")", tower.up(b, a), model.up(b, a));
        } else if (which < 30) {
            same("down(" + b + ")", tower.down(b), model.down(b));
        } else if (which < 36) {
            int loads = from(1, 9);
            same("lift(" + a + ", " + loads + ")", tower.lift(a, loads), model.lift(a, loads));
        } else if (which < 39) {
            int signal = signalNumber();
            same("signal(" + signal + ")", tower.signal(signal), model.signal(signal));
        } else if (which < 40) {
            int nose = from(1, 9);
            same("inspector(" + nose + ")", tower.inspector(nose), model.inspector(nose));
        } else if (which < 44) {
            int inspector = from(0, 2);
            same("inspect(" + inspector + ", " + a + ")", tower.inspect(inspector, a), model.inspect(inspector, a));
        } else if (which < 50) {
            int days = days();
            same("day(" + days + ")", tower.day(days), model.day(days));
        } else {
            keep();
        }
    }

    private void keep() {
        int which = next(16);
        if (which < 11) {
            for (int i = next(3); i >= 0; i--) {
                same("undo()", tower.undo(), model.undo());
            }
        } else if (which < 13) {
            same("save()", tower.save(), model.save());
        } else if (which < 15) {
            same("restore()", tower.restore(), model.restore());
        } else if (kind != 2) {
            same("clear()", tower.clear(), model.clear());
        }
    }

    private void text() {
        StringBuilder text = new StringBuilder();
        int orders = 1 + next(next(3) == 0 ? 12 : 3);
        for (int i = 0; i < orders; i++) {
            text.append(i > 0 ? ";" : "").append(order());
        }
        if (next(4) == 0) {
            spoil(text);
        }
        for (int i = 0; i < text.length() && i < 64; i++) {
            same("append(" + text.charAt(i) + ")", tower.append(text.charAt(i)), model.append(text.charAt(i)));
        }
        if (next(10) > 0) {
            same("script() of " + text, tower.script(), model.script());
            tell();
        }
    }

    private String order() {
        int storey = Math.min(9, Math.max(0, storey()));
        switch (next(8)) {
            case 0:
                return "b" + next(4) + "*" + (3 + next(7)) + ":" + next(50);
            case 1:
                return "t" + storey;
            case 2:
                return "u" + next(4) + "@" + storey;
            case 3:
                return "d" + next(4);
            case 4:
                return "l" + storey + "*" + next(10);
            case 5:
                return "g" + (flip() ? "" : "0") + next(flip() ? 3 : 10);
            case 6:
                return "i" + next(3) + "@" + storey;
            default:
                return "n" + (next(6) == 0 ? "0" : "" + (1 + next(12)));
        }
    }

    private void spoil(StringBuilder text) {
        String signs = "0123456789btudlgin;*@: ~/AB";
        int place = next(text.length());
        char sign = signs.charAt(next(signs.length()));
        switch (next(4)) {
            case 0:
                text.setCharAt(place, sign);
                break;
            case 1:
                text.insert(place, sign);
                break;
            case 2:
                text.deleteCharAt(place);
                break;
            default:
                text.setLength(place);
                break;
        }
        if (next(9) == 0) {
            text.append((char) (next(3) == 0 ? next(32) : 127 + next(1000)));
        }
    }

    private void tell() {
        same("fault()", tower.fault(), model.fault());
        for (int depth = 0; depth < 4; depth++) {
            same("reason(" + depth + ", false)", tower.reason(depth, false), model.reason(depth, false));
            same("reason(" + depth + ", true)", tower.reason(depth, true), model.reason(depth, true));
        }
    }

    private void ask(int which) {
        int a = storey();
        boolean flag = flip();
        int what = from(0, 6);
        switch (which) {
            case 0:
                same("fault()", tower.fault(), model.fault());
                break;
            case 1:
                same("reason()", tower.reason(what - 2, flag), model.reason(what - 2, flag));
                break;
            case 2:
                same("bundleOf()", tower.bundleOf(a, flag), model.bundleOf(a, flag));
                break;
            case 3:
                same("storeyOf(" + a + ", " + what + ")", tower.storeyOf(a, what), model.storeyOf(a, what));
                break;
            case 4:
                same("strength(" + a + ")", tower.strength(a, flag), model.strength(a, flag));
                break;
            case 5:
                same("weakest()", tower.weakest(), model.weakest());
                break;
            case 6:
                same("oldest(" + a + ")", tower.oldest(a), model.oldest(a));
                break;
            case 7:
                same("crewOf()", tower.crewOf(what, a), model.crewOf(what, a));
                break;
            case 8:
                same("crewOf(2)", tower.crewOf(what, 2), model.crewOf(what, 2));
                break;
            case 9:
                same("inspectorOf()", tower.inspectorOf(what, a), model.inspectorOf(what, a));
                break;
            case 10:
                same("highest()", tower.highest(), model.highest());
                break;
            case 11:
                same("wouldFall()", tower.wouldFall(what + 6), model.wouldFall(what + 6));
                break;
            case 12:
                same("oldIn(" + a + ")", tower.oldIn(a), model.oldIn(a));
                break;
            case 13:
                same("doneIn(" + a + ")", tower.doneIn(a), model.doneIn(a));
                break;
            case 14:
                same("describe()", tower.describe(), model.describe());
                break;
            case 15:
                same("written()", tower.written(what * 3), model.written(what * 3));
                break;
            case 16:
                same("work()", tower.work(flag), model.work(flag));
                break;
            case 17:
                same("meanStrength()", tower.meanStrength(), model.meanStrength());
                same("doneShare()", tower.doneShare(), model.doneShare());
                break;
            default:
                int which2 = from(-1, 19);
                same("account(" + which2 + ")", tower.account(which2), model.account(which2));
                break;
        }
    }

    private void sweep() {
        tell();
        for (int what = 0; what < 19; what++) {
            same("account(" + what + ")", tower.account(what), model.account(what));
        }
        for (int storey = 0; storey < model.account(4); storey++) {
            for (int what = 0; what < 7; what++) {
                same("storeyOf(" + storey + ", " + what + ")", tower.storeyOf(storey, what), model.storeyOf(storey, what));
            }
        }
        same("describe()", tower.describe(), model.describe());
        for (int index = 0; index <= model.describe(); index++) {
            same("written(" + index + ")", tower.written(index), model.written(index));
        }
    }
}
