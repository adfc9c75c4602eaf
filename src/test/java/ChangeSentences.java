/** Promises 1 to 16, sentence by sentence: a new object, clear, append, and the changes. */
final class ChangeSentences {
    private static final String LEAST = "-2147483648";
    private static final String ONE = "bundle(30, 0) -> 0, build(0, 4, 9) -> 0";
    private static final String THREE = "bundle(30, 0) -> 0, 3 times build(0, 4, 9) -> *";
    /** Ten storeys, the first 7 of bundle 0, and 2 poles left of it. */
    private static final String TEN = "strips(99) -> 159, bundle(30, 0) -> 0, bundle(30, 0) -> 1, 7 times build(0, 4, 9) -> *,"
        + " 3 times build(1, 4, 9) -> *";

    private ChangeSentences() {
    }

    static void hold() {
        newObject();
        clear();
        append();
        bundle();
        strips();
        build();
        buildRefused();
        tie();
        crew();
        up();
        upRefused();
        down();
        lift();
        signal();
        inspector();
        inspect();
        day();
        script();
        scriptCodes();
    }

    private static void promise(int number, String words, String... calls) {
        Sentence.holds("Promise " + number, words, calls);
    }

    private static void newObject() {
        promise(1, "`BambooTower()`: Creates a tower without scaffold, poles, crews and inspectors.", "account(4) -> 0",
            "account(2) -> 0, account(3) -> 0, account(7) -> 0, account(12) -> 0, account(0) -> 0, account(1) -> 0",
            "account(5) -> 0, account(6) -> 0, account(8) -> 0, account(9) -> 60, account(10) -> 20, account(11) -> 0",
            "account(13) -> 0, account(14) -> 0, account(15) -> 0, account(16) -> 0, account(17) -> 0, account(18) -> 0",
            "storeyOf(0, 0) -> NONE, bundleOf(0, false) -> NONE, crewOf(0, 0) -> NONE, inspectorOf(0, 0) -> NONE",
            "undo() -> NOTHING, restore() -> NOTHING, fault() -> NOTHING, reason(0, false) -> NOTHING",
            "written(0) -> NONE, work(false) -> 0, work(true) -> 0");
    }

    private static void clear() {
        String words = "Makes everything as in a new object";
        String much = "bundle(30, 60) -> 0, bundle(9, 3) -> 1, build(0, 8, 9) -> 0, build(0, 4, 8) -> 1, crew(4) -> 0, up(0, 0) -> 1,"
            + " lift(0, 1) -> 19, inspector(9) -> 0, day(12) -> 0, inspect(0, 0) -> 1, lift(0, 1) -> 19, signal(8) -> 0, day(1) -> 2";
        promise(2, words, "look", much, "build(0, 4, 0) -> REFUSED, clear() -> 13, same, account(13) -> 0, account(14) -> 0",
            "account(15) -> 0, account(16) -> 0, work(true) -> 0");
        promise(2, words, much, "clear() -> 13, bundle(8, 0) -> 0, build(0, 4, 40) -> 0, storeyOf(0, 1) -> 0",
            "storeyOf(0, 2) -> 0, storeyOf(0, 4) -> 0, storeyOf(0, 5) -> 0, work(true) -> 40, crew(2) -> 0",
            "crewOf(0, 1) -> NOTHING, crewOf(0, 3) -> 0, inspector(1) -> 0, inspectorOf(0, 1) -> 0",
            "inspectorOf(0, 2) -> 0, oldIn(0) -> 21, lift(0, 9) -> 11, doneShare() -> 0.0, day(7) -> 0",
            "bundleOf(0, true) -> 1");
        promise(2, words, "look, clear() -> 0, all same, signal(5) -> 0, clear() -> 0, same");
        promise(2, "except the input, the fault position, the reasons, the written line and what was saved",
            "strips(7) -> 67, save() -> 0, type \"t1?\" -> 3, script() -> BAD, crew(1) -> 0, down(0) -> REFUSED",
            "describe() -> 4, type \"g7\" -> 2, clear() -> 0, account(17) -> 2, fault() -> 2, reason(0, false) -> 11",
            "reason(0, true) -> 0, reads \"bare\", script() -> 1, account(1) -> 7, account(9) -> 60, restore() -> 0",
            "account(9) -> 67, account(1) -> 0");
        promise(2, "Nothing can be undone then.", "9 times strips(1) -> *, clear() -> 0, account(18) -> 0",
            "undo() -> NOTHING, account(9) -> 60, strips(2) -> 62, undo() -> 0, account(9) -> 60, undo() -> NOTHING");
        promise(2, "Returns the day that it was.", "clear() -> 0, day(30) -> 0, clear() -> 30, clear() -> 0, day(1) -> 0",
            "clear() -> 1");
    }

    private static void append() {
        promise(3, "`int append(char character)`: Appends a character to the input.",
            "append('n') -> 1, append('1') -> 2, append('2') -> 3, account(17) -> 3, account(18) -> 0, script() -> 1",
            "account(0) -> 12");
        promise(3, "`character`: the character", "append(103) -> 1, append(57) -> 2, script() -> 1, account(1) -> 9");
        promise(3, "Returns the length of the input then", "append('g') -> 1, append('1') -> 2, script() -> 1",
            "append('g') -> 1, 58 times append('0') -> *, append('0') -> 60");
        promise(3, "BAD if its code is out of range", "append(31) -> BAD, append(32) -> 1, append(126) -> 2",
            "append(127) -> BAD, append(0) -> BAD, append(255) -> BAD, append(65535) -> BAD, account(17) -> 2");
        promise(3, "or there are 60", "59 times append(' ') -> *, append(' ') -> 60, append(' ') -> BAD, append('g') -> BAD",
            "append(127) -> BAD, account(17) -> 60, script() -> BAD, account(17) -> 0, append('g') -> 1");
        promise(3, "or there are 60", "type \"g0;g0;g0;g0;g0;g0;g0;g0;g0;g0;g0;g0;g0;g0;g0;g0;g0;g0;g0;g07;t0\" -> BAD",
            "account(17) -> 60, script() -> 20, account(1) -> 7");
    }

    private static void bundle() {
        promise(4, "`int bundle(int poles, int age)`: Brings a bundle.", "bundle(5, 7) -> 0, account(2) -> 1",
            "account(3) -> 5, bundleOf(0, false) -> 5, bundleOf(0, true) -> 7, bundle(6, 8) -> 1, account(2) -> 2",
            "account(3) -> 11");
        promise(4, "`poles`: its poles", "bundle(0, 1) -> BAD, bundle(1, 1) -> 0, bundle(30, 1) -> 1, bundle(31, 1) -> BAD",
            "account(3) -> 31");
        promise(4, "`age`: their age in weeks", "bundle(2, -1) -> BAD, bundle(2, 0) -> 0, bundle(2, 60) -> 1",
            "bundle(2, 61) -> BAD, bundleOf(0, true) -> 0, bundleOf(1, true) -> 60");
        promise(4, "Returns its number", "bundle(1, 0) -> 0, bundle(1, 0) -> 1, bundle(1, 0) -> 2, bundle(1, 0) -> 3",
            "bundle(1, 0) -> 4, bundle(1, 0) -> 5, bundle(1, 0) -> 6, bundle(1, 0) -> 7, undo() -> 7, bundle(2, 0) -> 7");
        promise(4, "BAD if a number is out of range", "look, bundle(0, 0) -> BAD, bundle(31, 0) -> BAD",
            "bundle(1, -1) -> BAD",
            "bundle(1, 61) -> BAD, bundle(0, 61) -> BAD, bundle(" + LEAST + ", 0) -> BAD, bundle(1, " + LEAST + ") -> BAD, all same");
        promise(4, "REFUSED for 1", "7 times bundle(1, 0) -> *, bundle(1, 0) -> 7, look, bundle(1, 0) -> REFUSED, same",
            "reason(0, false) -> 1, reason(0, true) -> 8, undo() -> 7, bundle(9, 9) -> 7, bundle(1, 0) -> REFUSED");
        promise(4, "REFUSED for 1", "signal(10) -> 0, bundle(1, 0) -> 0");
    }

    private static void strips() {
        promise(5, "`int strips(int many)`: Brings strips", "strips(7) -> 67, account(9) -> 67, strips(1) -> 68",
            "account(9) -> 68");
        promise(5, "what would be more than 200 is not brought", "strips(99) -> 159, strips(40) -> 199, strips(1) -> 200",
            "strips(1) -> 200, strips(99) -> 200, account(9) -> 200, bundle(4, 0) -> 0, build(0, 4, 0) -> 0",
            "account(9) -> 192, strips(9) -> 200");
        promise(5, "what would be more than 200 is not brought", "strips(99) -> 159, strips(42) -> 200, account(9) -> 200");
        promise(5, "`many`: how many, from 1 to 99", "strips(0) -> BAD, strips(1) -> 61, strips(99) -> 160",
            "strips(100) -> BAD");
        promise(5, "Returns the strips then", "strips(60) -> 120, strips(60) -> 180, strips(60) -> 200");
        promise(5, "BAD if the number is out of range", "look, strips(0) -> BAD, strips(-1) -> BAD, strips(100) -> BAD",
            "strips(2147483647) -> BAD, strips(" + LEAST + ") -> BAD, all same, strips(99) -> 159, strips(99) -> 200",
            "strips(100) -> BAD, strips(0) -> BAD, account(9) -> 200");
        promise(5, "`int strips(int many)`: Brings strips", "signal(10) -> 0, strips(1) -> 61");
    }

    private static void build() {
        promise(6, "`int build(int bundle, int poles, int work)`: Builds the next storey.", "bundle(30, 8) -> 0",
            "build(0, 5, 7) -> 0, build(0, 6, 8) -> 1, account(4) -> 2, storeyOf(0, 0) -> 5, storeyOf(0, 1) -> 8",
            "storeyOf(0, 2) -> 0, storeyOf(0, 3) -> 7, storeyOf(0, 4) -> 0, storeyOf(0, 5) -> 0, storeyOf(0, 6) -> 0",
            "storeyOf(1, 0) -> 6, storeyOf(1, 3) -> 8, bundleOf(0, false) -> 19, account(9) -> 38");
        promise(6, "Builds the next storey", "bundle(30, 0) -> 0, inspector(9) -> 0, build(0, 4, 0) -> 0, day(30) -> 0",
            "inspect(0, 0) -> 1, build(0, 4, 0) -> 1, storeyOf(1, 5) -> 0, storeyOf(1, 2) -> 0");
        promise(6, "`bundle`: the bundle", "bundle(9, 1) -> 0, bundle(9, 2) -> 1, build(1, 4, 0) -> 0, storeyOf(0, 1) -> 2",
            "bundleOf(0, false) -> 9, bundleOf(1, false) -> 5, build(0, 4, 0) -> 1, storeyOf(1, 1) -> 1");
        promise(6, "`bundle`: the bundle", "8 times bundle(8, 3) -> *, build(7, 8, 0) -> 0, bundleOf(7, false) -> 0",
            "bundleOf(6, false) -> 8");
        promise(6, "`poles`: how many poles", "bundle(30, 0) -> 0, build(0, 3, 0) -> BAD, build(0, 4, 0) -> 0",
            "build(0, 8, 0) -> 1, build(0, 9, 0) -> BAD, storeyOf(0, 0) -> 4, storeyOf(1, 0) -> 8");
        promise(6, "`work`: the hours of work", "bundle(30, 0) -> 0, build(0, 4, -1) -> BAD, build(0, 4, 0) -> 0",
            "build(0, 4, 40) -> 1, build(0, 4, 41) -> BAD, storeyOf(0, 3) -> 0, storeyOf(1, 3) -> 40");
        promise(6, "Returns the number of the storey", TEN, "account(4) -> 10, undo() -> 7, build(1, 4, 0) -> 9");
        promise(6, "Returns the number of the storey", "bundle(30, 0) -> 0, build(0, 4, 0) -> 0, build(0, 4, 0) -> 1",
            "undo() -> 2, build(0, 4, 0) -> 1, build(0, 4, 0) -> 2");
        promise(6, "NONE if there is no such bundle", "build(0, 4, 0) -> NONE, bundle(30, 0) -> 0, look",
            "build(-1, 4, 0) -> NONE, build(1, 4, 0) -> NONE, build(7, 4, 0) -> NONE, build(8, 4, 0) -> NONE",
            "build(2147483647, 4, 0) -> NONE", "build(" + LEAST + ", 4, 0) -> NONE, all same");
        promise(6, "NONE if there is no such bundle", "8 times bundle(30, 0) -> *, build(8, 4, 0) -> NONE",
            "build(7, 4, 0) -> 0");
        promise(6, "BAD if a number is out of range", "bundle(30, 0) -> 0, look, build(0, 3, 0) -> BAD",
            "build(0, 9, 0) -> BAD",
            "build(0, 4, -1) -> BAD, build(0, 4, 41) -> BAD, build(0, 9, 41) -> BAD, build(0, " + LEAST + ", 0) -> BAD",
            "build(0, 4, " + LEAST + ") -> BAD, build(0, 4, 2147483647) -> BAD, all same");
    }

    private static void buildRefused() {
        String words = "REFUSED for 1, 4, 2 or 3";
        promise(6, words, TEN, "look, build(1, 4, 0) -> REFUSED, same, reason(0, false) -> 1, reason(0, true) -> 10",
            "undo() -> 7, build(1, 4, 0) -> 9, build(0, 4, 0) -> REFUSED, reason(0, false) -> 1");
        promise(6, words, "bundle(30, 0) -> 0, signal(3) -> 0, look, build(0, 4, 0) -> REFUSED, same, reason(0, false) -> 4",
            "reason(0, true) -> 3, signal(2) -> 3, build(0, 4, 0) -> 0");
        promise(6, words, "bundle(5, 0) -> 0, look, build(0, 6, 0) -> REFUSED, same, reason(0, false) -> 2",
            "reason(0, true) -> 5, build(0, 5, 0) -> 0, look, build(0, 4, 0) -> REFUSED, same, reason(0, true) -> 0");
        promise(6, words, "bundle(30, 0) -> 0, bundle(30, 0) -> 1, 3 times build(0, 8, 0) -> *, look",
            "build(1, 7, 0) -> REFUSED, same, reason(0, false) -> 3, reason(0, true) -> 2, build(1, 6, 0) -> 3",
            "account(9) -> 0, look, build(1, 4, 0) -> REFUSED, same, reason(0, false) -> 3, reason(0, true) -> 8");
    }

    private static void tie() {
        promise(7, "`int tie(int storey)`: Ties a storey anew.", THREE, "inspector(9) -> 0, day(12) -> 0",
            "inspect(0, 1) -> 1, tie(1) -> 12, storeyOf(1, 2) -> 0, storeyOf(1, 5) -> 0, account(9) -> 28",
            "storeyOf(0, 2) -> 12, storeyOf(2, 2) -> 12");
        promise(7, "`storey`: the storey", THREE, "day(1) -> 0, tie(2) -> 1, storeyOf(2, 2) -> 0, storeyOf(0, 2) -> 1",
            "tie(0) -> 1");
        promise(7, "Returns how old its tie was", ONE, "day(1) -> 0, tie(0) -> 1, day(20) -> 0, tie(0) -> 20",
            "day(21) -> 0, tie(0) -> 21, 4 times day(30) -> *, tie(0) -> 99");
        promise(7, "NONE if there is no such storey", "tie(0) -> NONE", THREE, "day(1) -> 0, look, tie(-1) -> NONE",
            "tie(3) -> NONE", "tie(10) -> NONE, tie(2147483647) -> NONE, tie(" + LEAST + ") -> NONE, all same");
        String words = "REFUSED for 4, 10 or 3";
        promise(7, words, ONE, "day(1) -> 0, signal(3) -> 0, look, tie(0) -> REFUSED, same, reason(0, false) -> 4",
            "reason(0, true) -> 3, signal(2) -> 3, tie(0) -> 1");
        promise(7, words, ONE, "look, tie(0) -> REFUSED, same, reason(0, false) -> 10, reason(0, true) -> 0, day(1) -> 0",
            "tie(0) -> 1, tie(0) -> REFUSED");
        promise(7, words, "bundle(30, 0) -> 0, 3 times build(0, 8, 0) -> *, day(1) -> 0, look, tie(0) -> REFUSED, same",
            "reason(0, false) -> 3, reason(0, true) -> 4, strips(3) -> 15, tie(0) -> REFUSED, reason(0, true) -> 1",
            "strips(1) -> 16, tie(0) -> 1, account(9) -> 0");
    }

    private static void crew() {
        promise(8, "`int crew(int skill)`: Adds a crew.", "crew(2) -> 0, account(7) -> 1, crewOf(0, 0) -> 2",
            "crewOf(0, 1) -> NOTHING, crewOf(0, 2) -> 0, crewOf(0, 3) -> 0, account(8) -> 0");
        promise(8, "`skill`: its skill", "crew(1) -> 0, crew(2) -> 1, crew(3) -> 2, crew(4) -> 3, crewOf(0, 0) -> 1",
            "crewOf(1, 0) -> 2, crewOf(2, 0) -> 3, crewOf(3, 0) -> 4");
        promise(8, "Returns its number", "crew(1) -> 0, crew(1) -> 1, crew(1) -> 2, crew(1) -> 3, crew(1) -> 4",
            "undo() -> 4, crew(1) -> 4");
        promise(8, "BAD if the skill is out of range", "look, crew(0) -> BAD, crew(5) -> BAD, crew(" + LEAST + ") -> BAD",
            "crew(2147483647) -> BAD, all same, crew(1) -> 0, crew(4) -> 1");
        promise(8, "REFUSED for 1", "5 times crew(1) -> *, look, crew(1) -> REFUSED, same, reason(0, false) -> 1",
            "reason(0, true) -> 5, undo() -> 4, crew(3) -> 4, crew(3) -> REFUSED");
        promise(8, "`int crew(int skill)`: Adds a crew.", "signal(10) -> 0, crew(1) -> 0, crewOf(0, 1) -> NOTHING");
    }

    private static void up() {
        String words = "Lets a crew go up to a storey, from the ground or from another storey.";
        promise(9, words, THREE, "2 times crew(1) -> *, up(1, 2) -> 1, crewOf(1, 1) -> 2, crewOf(0, 1) -> NOTHING",
            "storeyOf(2, 6) -> 2, up(1, 0) -> 1, crewOf(1, 1) -> 0, storeyOf(2, 6) -> 0, storeyOf(0, 6) -> 2",
            "up(1, 1) -> 1, account(8) -> 1");
        promise(9, words, ONE, "build(0, 4, 0) -> 1, crew(1) -> 0, up(0, 0) -> 1, day(20) -> 0, tie(0) -> 20",
            "up(0, 1) -> 1, day(1) -> 0, up(0, 0) -> 1, up(0, 1) -> REFUSED, crewOf(0, 1) -> 0");
        promise(9, "`crew`: the crew", ONE, "5 times crew(1) -> *, up(4, 0) -> 1, storeyOf(0, 6) -> 16, up(0, 0) -> 2",
            "storeyOf(0, 6) -> 17");
        promise(9, "`storey`: the storey", TEN, "crew(1) -> 0, up(0, 9) -> 1, crewOf(0, 1) -> 9, up(0, 0) -> 1",
            "crewOf(0, 1) -> 0");
        promise(9, "Returns the crews on this storey then", THREE, "5 times crew(1) -> *, up(0, 1) -> 1, up(1, 1) -> 2",
            "up(2, 0) -> 1, up(3, 1) -> 3, up(4, 1) -> 4, up(2, 1) -> 5, up(1, 2) -> 1, up(1, 1) -> 5");
        words = "NONE if there is no such crew or storey";
        promise(9, words, ONE, "crew(1) -> 0, clear() -> 0, up(0, 0) -> NONE, crew(1) -> 0, up(0, 0) -> NONE", ONE,
            "undo() -> *, up(0, 0) -> NONE");
        promise(9, words, "up(0, 0) -> NONE, crew(1) -> 0, up(0, 0) -> NONE", THREE, "look, up(0, 3) -> NONE",
            "up(0, -1) -> NONE", "up(0, 2147483647) -> NONE, up(0, " + LEAST + ") -> NONE, all same");
        promise(9, words, THREE, "up(0, 0) -> NONE, crew(1) -> 0, look, up(1, 0) -> NONE, up(-1, 0) -> NONE",
            "up(5, 0) -> NONE", "up(2147483647, 0) -> NONE, up(" + LEAST + ", 0) -> NONE, up(1, 3) -> NONE, all same");
    }

    private static void upRefused() {
        String words = "REFUSED for 7, 4, 5 or 6";
        promise(9, words, THREE, "2 times crew(1) -> *, up(0, 2) -> 1, look, up(0, 2) -> REFUSED, same",
            "reason(0, false) -> 7, reason(0, true) -> 2, up(1, 2) -> 2");
        promise(9, words, ONE, "crew(1) -> 0, signal(3) -> 0, look, up(0, 0) -> REFUSED, same, reason(0, false) -> 4",
            "reason(0, true) -> 3, signal(2) -> 3, up(0, 0) -> 1");
        promise(9, words, THREE, "crew(1) -> 0, day(20) -> 0, up(0, 2) -> 1, down(0) -> 2, day(1) -> 0, look",
            "up(0, 2) -> REFUSED, same, reason(0, false) -> 5, reason(0, true) -> 0, reason(1, false) -> NOTHING");
        promise(9, words, THREE, "crew(1) -> 0, inspector(9) -> 0, day(12) -> 0, inspect(0, 1) -> 1, look",
            "up(0, 1) -> REFUSED, same, reason(0, false) -> 6, reason(0, true) -> 1, reason(1, false) -> 13",
            "reason(1, true) -> 0, up(0, 0) -> 1, up(0, 1) -> REFUSED, crewOf(0, 1) -> 0");
    }

    private static void down() {
        promise(10, "`int down(int crew)`: Lets a crew come down.", ONE, "2 times crew(1) -> *, up(0, 0) -> 1",
            "up(1, 0) -> 2, down(0) -> 0, crewOf(0, 1) -> NOTHING, crewOf(1, 1) -> 0, storeyOf(0, 6) -> 2",
            "account(8) -> 1");
        promise(10, "Lets a crew come down", ONE, "crew(1) -> 0, up(0, 0) -> 1, day(30) -> 0, down(0) -> 0",
            "crewOf(0, 1) -> NOTHING");
        promise(10, "`crew`: the crew", ONE, "5 times crew(1) -> *, up(4, 0) -> 1, up(3, 0) -> 2, down(4) -> 0",
            "storeyOf(0, 6) -> 8");
        promise(10, "Returns the storey where it was", TEN, "crew(1) -> 0, up(0, 9) -> 1, down(0) -> 9, up(0, 0) -> 1",
            "down(0) -> 0");
        promise(10, "NONE if there is no such crew", "down(0) -> NONE, crew(1) -> 0, look, down(-1) -> NONE",
            "down(1) -> NONE", "down(5) -> NONE, down(2147483647) -> NONE, down(" + LEAST + ") -> NONE, all same");
        promise(10, "NONE if there is no such crew", "crew(1) -> 0, clear() -> 0, down(0) -> NONE, crew(1) -> 0",
            "undo() -> 0, down(0) -> NONE, reason(0, false) -> NOTHING");
        promise(10, "REFUSED for 11", ONE, "2 times crew(1) -> *, up(0, 0) -> 1, look, down(1) -> REFUSED, same",
            "reason(0, false) -> 11, reason(0, true) -> 1, down(0) -> 0, down(0) -> REFUSED, reason(0, true) -> 0");
    }

    private static void lift() {
        promise(11, "`int lift(int storey, int loads)`: Brings loads up to a storey.", THREE, "lift(1, 3) -> 14",
            "storeyOf(1, 4) -> 3, storeyOf(0, 4) -> 0, storeyOf(2, 4) -> 0, lift(1, 1) -> 12, storeyOf(1, 4) -> 4",
            "account(11) -> 4");
        promise(11, "Brings loads up to a storey", ONE, "inspector(9) -> 0, day(21) -> 0, inspect(0, 0) -> 1",
            "lift(0, 1) -> 19");
        promise(11, "`storey`: the storey", TEN, "lift(9, 1) -> 10, storeyOf(9, 4) -> 1, lift(0, 1) -> 9",
            "storeyOf(0, 4) -> 1");
        promise(11, "`loads`: how many, from 1 to 9", ONE, "lift(0, 0) -> BAD, lift(0, 10) -> BAD, lift(0, 1) -> 19",
            "day(1) -> 0, undo() -> *, undo() -> *, lift(0, 9) -> 11, storeyOf(0, 4) -> 9");
        promise(11, "Returns the turns that the lift has left on this day", THREE, "lift(0, 5) -> 15, lift(2, 5) -> 0",
            "day(1) -> 0, lift(1, 1) -> 18");
        promise(11, "NONE if there is no such storey", "lift(0, 1) -> NONE", THREE, "look, lift(-1, 1) -> NONE",
            "lift(3, 1) -> NONE", "lift(2147483647, 1) -> NONE, lift(" + LEAST + ", 9) -> NONE, all same");
        promise(11, "NONE if there is no such storey", "bundle(30, 60) -> 0, build(0, 4, 0) -> 0, lift(0, 1) -> 19",
            "signal(8) -> 0, day(1) -> 1, lift(0, 1) -> NONE, tie(0) -> NONE, signal(0) -> 8, lift(0, 1) -> NONE",
            "clear() -> 1, lift(0, 1) -> NONE, tie(0) -> NONE");
        promise(11, "BAD if the number is out of range", ONE, "look, lift(0, 0) -> BAD, lift(0, 10) -> BAD",
            "lift(0, -1) -> BAD", "lift(0, 2147483647) -> BAD, lift(0, " + LEAST + ") -> BAD, all same");
        String words = "REFUSED for 4, 9 or 8";
        promise(11, words, ONE, "signal(3) -> 0, look, lift(0, 1) -> REFUSED, same, reason(0, false) -> 4",
            "reason(0, true) -> 3, signal(2) -> 3, lift(0, 1) -> 19");
        promise(11, words, ONE, "lift(0, 4) -> 16, look, lift(0, 6) -> REFUSED, same, reason(0, false) -> 9",
            "reason(0, true) -> 4, lift(0, 5) -> 11, look, lift(0, 1) -> REFUSED, same, reason(0, false) -> 9",
            "reason(0, true) -> 9");
        promise(11, words, THREE, "lift(2, 6) -> 2, look, lift(2, 1) -> REFUSED, same, reason(0, false) -> 8",
            "reason(0, true) -> 2, lift(1, 1) -> 0, look, lift(0, 1) -> REFUSED, same, reason(0, false) -> 8",
            "reason(0, true) -> 0");
        promise(11, words, TEN, "lift(9, 3) -> REFUSED, reason(0, false) -> 8, reason(0, true) -> 20, lift(9, 2) -> 0");
    }

    private static void signal() {
        promise(12, "`int signal(int signal)`: Sets the signal.", "signal(7) -> 0, account(1) -> 7, day(5) -> 0",
            "account(1) -> 7");
        promise(12, "`signal`: the signal", "signal(-1) -> BAD, signal(0) -> 0, signal(10) -> 0, signal(11) -> BAD",
            "account(1) -> 10");
        promise(12, "Returns the signal before", "signal(10) -> 0, signal(10) -> 10, signal(3) -> 10, signal(0) -> 3",
            "signal(0) -> 0");
        promise(12, "BAD if it is out of range", ONE, "crew(1) -> 0, up(0, 0) -> 1, look, signal(-1) -> BAD",
            "signal(11) -> BAD", "signal(2147483647) -> BAD, signal(" + LEAST + ") -> BAD, all same, account(8) -> 1");
    }

    private static void inspector() {
        promise(13, "`int inspector(int nose)`: Adds an inspector.", "inspector(3) -> 0, account(12) -> 1",
            "inspectorOf(0, 0) -> 3, inspectorOf(0, 1) -> 0, inspectorOf(0, 2) -> 0, account(13) -> 0");
        promise(13, "`nose`: the nose", "inspector(1) -> 0, inspector(9) -> 1, inspectorOf(0, 0) -> 1",
            "inspectorOf(1, 0) -> 9");
        promise(13, "Returns the number of the inspector", "inspector(1) -> 0, inspector(1) -> 1, inspector(1) -> 2",
            "undo() -> 2, inspector(4) -> 2, inspectorOf(2, 0) -> 4");
        promise(13, "BAD if the nose is out of range", "look, inspector(0) -> BAD, inspector(10) -> BAD",
            "inspector(-1) -> BAD", "inspector(2147483647) -> BAD, inspector(" + LEAST + ") -> BAD, all same");
        promise(13, "REFUSED for 1", "3 times inspector(1) -> *, look, inspector(1) -> REFUSED, same, reason(0, false) -> 1",
            "reason(0, true) -> 3, undo() -> 2, inspector(5) -> 2, inspector(5) -> REFUSED");
        promise(13, "`int inspector(int nose)`: Adds an inspector.", "signal(10) -> 0, inspector(1) -> 0");
    }

    private static void inspect() {
        promise(14, "`int inspect(int inspector, int storey)`: Lets an inspector look at a storey.", THREE,
            "inspector(9) -> 0, day(12) -> 0, inspect(0, 1) -> 1, storeyOf(1, 5) -> 1, storeyOf(0, 5) -> 0",
            "storeyOf(2, 5) -> 0, account(13) -> 9");
        promise(14, "`inspector`: the inspector", ONE, "inspector(1) -> 0, inspector(2) -> 1, inspector(9) -> 2",
            "day(18) -> 0, inspect(0, 0) -> 0, inspect(1, 0) -> 0, inspect(2, 0) -> 1, inspectorOf(2, 1) -> 1",
            "inspectorOf(1, 2) -> 0");
        promise(14, "`storey`: the storey", TEN, "inspector(9) -> 0, day(12) -> 0, inspect(0, 9) -> 1, storeyOf(9, 5) -> 1",
            "account(5) -> 1, inspect(0, 0) -> 1, storeyOf(0, 5) -> 1, account(5) -> 2");
        promise(14, "Returns 1 if it is bad, otherwise 0", ONE, "inspector(9) -> 0, inspect(0, 0) -> 0, day(11) -> 0",
            "inspect(0, 0) -> 0, day(1) -> 0, inspect(0, 0) -> 1, inspect(0, 0) -> 1, tie(0) -> 12, inspect(0, 0) -> 0");
        promise(14, "otherwise 0", ONE, "crew(1) -> 0, up(0, 0) -> 1, inspector(8) -> 0, day(12) -> 0, inspect(0, 0) -> 0",
            "storeyOf(0, 5) -> 0, crewOf(0, 1) -> 0, account(13) -> 0, inspectorOf(0, 2) -> 0");
        String words = "NONE if there is no such inspector or storey";
        promise(14, words, "inspect(0, 0) -> NONE, inspector(9) -> 0, inspect(0, 0) -> NONE", THREE, "day(12) -> 0, look",
            "inspect(0, 3) -> NONE, inspect(0, -1) -> NONE, inspect(0, 2147483647) -> NONE, inspect(0, " + LEAST + ") -> NONE, all same");
        promise(14, words, THREE, "day(12) -> 0, inspect(0, 0) -> NONE, inspector(9) -> 0, look, inspect(1, 0) -> NONE",
            "inspect(-1, 0) -> NONE, inspect(3, 0) -> NONE, inspect(2147483647, 0) -> NONE, inspect(" + LEAST + ", 0) -> NONE, all same");
        promise(14, words, ONE, "inspector(9) -> 0, day(12) -> 0, clear() -> 12, inspect(0, 0) -> NONE", ONE,
            "inspect(0, 0) -> NONE");
        promise(14, "REFUSED for 4", ONE, "inspector(9) -> 0, day(12) -> 0, signal(3) -> 0, look",
            "inspect(0, 0) -> REFUSED, same, reason(0, false) -> 4, reason(0, true) -> 3, signal(2) -> 3",
            "inspect(0, 0) -> 1");
    }

    private static void day() {
        promise(15, "`int day(int days)`: Lets days pass.", ONE, "crew(1) -> 0, up(0, 0) -> 1, lift(0, 9) -> 11",
            "day(3) -> 0, account(0) -> 3, storeyOf(0, 2) -> 3, storeyOf(0, 3) -> 6, storeyOf(0, 4) -> 6",
            "account(10) -> 20, account(18) -> 6");
        promise(15, "`days`: how many, from 1 to 30", "day(0) -> BAD, day(1) -> 0, account(0) -> 1, day(30) -> 0",
            "account(0) -> 31, day(31) -> BAD, account(0) -> 31");
        promise(15, "Returns how many storeys fall in them", "day(30) -> 0, bundle(30, 0) -> 0, bundle(30, 60) -> 1",
            "build(0, 8, 0) -> 0, build(0, 8, 0) -> 1, build(1, 4, 0) -> 2, signal(7) -> 0, day(1) -> 0, signal(8) -> 7",
            "day(1) -> 1, day(1) -> 0");
        promise(15, "Returns how many storeys fall in them", "bundle(30, 60) -> 0, bundle(30, 0) -> 1",
            "build(1, 8, 0) -> 0, build(0, 8, 1) -> 1, build(0, 7, 2) -> 2, signal(8) -> 0, day(30) -> 3",
            "account(4) -> 0, account(15) -> 3, day(30) -> 0");
        promise(15, "BAD if the number is out of range", ONE, "look, day(0) -> BAD, day(31) -> BAD, day(-1) -> BAD",
            "day(2147483647) -> BAD, day(" + LEAST + ") -> BAD, all same");
    }

    private static void script() {
        String words = "Carries out the orders of the input, one after the other, all of them or none.";
        promise(16, words, "bundle(30, 0) -> 0, crew(4) -> 0, type \"b0*4:9;l0*2;u0@0;n1;d0;g3\" -> 25, script() -> 6",
            "storeyOf(0, 3) -> 5, storeyOf(0, 4) -> 1, crewOf(0, 1) -> NOTHING, account(1) -> 3, account(0) -> 1",
            "account(18) -> 3, undo() -> 2, account(4) -> 0, account(0) -> 0, account(1) -> 0");
        promise(16, words, "bundle(30, 0) -> 0, look, type \"b0*4:9;g1;n9;b0*8:40;t1\" -> 23, script() -> REFUSED, same");
        promise(16, words, "look, type \"g1;n9;n31\" -> 9, script() -> REFUSED, same, type \"g1;n9;t0\" -> 8",
            "script() -> REFUSED, same");
        promise(16, words, "bundle(30, 0) -> 0, look, type \"g9;b0*4:0\" -> 9, script() -> REFUSED, same",
            "reason(1, true) -> 9, type \"g9;g2;b0*4:0\" -> 12, script() -> 3, account(4) -> 1");
        words = "The input is empty then, whatever is returned.";
        promise(16, words, "type \"g1\" -> 2, script() -> 1, account(17) -> 0, type \"t0\" -> 2, script() -> REFUSED",
            "account(17) -> 0, type \"t\" -> 1, script() -> BAD, account(17) -> 0, script() -> BAD, account(17) -> 0",
            "append('g') -> 1, append('2') -> 2, script() -> 1, account(1) -> 2");
        promise(16, words, "59 times append('0') -> *, append('0') -> 60, script() -> BAD, account(17) -> 0",
            "append('0') -> 1");
        words = "Returns the number of orders";
        promise(16, words, "type \"g0\" -> 2, script() -> 1, type \"g0;n1;g0\" -> 8, script() -> 3, type \"n1;n1\" -> 5",
            "script() -> 2");
        promise(16, words, "type \"g0;g0;g0;g0;g0;g0;g0;g0;g0;g0;g0;g0;g0;g0;g0;g0;g0;g0;g0;g0\" -> 59, script() -> 20",
            "account(18) -> 1");
    }

    private static void scriptCodes() {
        promise(16, "BAD, where the fault position is kept", "look, script() -> BAD, same, fault() -> 0",
            "type \"g1;n5;g\" -> 7, script() -> BAD, same, fault() -> 7, type \"g1;q\" -> 4, script() -> BAD",
            "fault() -> 3, type \"g0\" -> 2, script() -> 1, fault() -> 3");
        promise(16, "REFUSED for 12", "crew(1) -> 0, look, type \"g1;g2;d0\" -> 8, script() -> REFUSED, same",
            "reason(0, false) -> 12, reason(0, true) -> 2, reason(1, false) -> 11, reason(1, true) -> 0");
        promise(16, "REFUSED for 12", "look, type \"t0\" -> 2, script() -> REFUSED, same, reason(0, true) -> 0",
            "type \"n0\" -> 2, script() -> REFUSED, same, reason(0, true) -> 0, type \"g2;g11\" -> 6",
            "script() -> REFUSED, same, reason(0, true) -> 1");
    }
}
