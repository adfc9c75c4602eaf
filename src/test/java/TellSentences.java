/** Promises 17 to 35, sentence by sentence: what is told. */
final class TellSentences {
    private static final String LEAST = "-2147483648";
    private static final String MOST = "2147483647";
    private static final String ONE = "bundle(30, 0) -> 0, build(0, 4, 9) -> 0";
    private static final String THREE = "bundle(30, 0) -> 0, 3 times build(0, 4, 9) -> *";
    private static final String TEN = "strips(99) -> 159, bundle(30, 0) -> 0, bundle(30, 0) -> 1, 7 times build(0, 4, 9) -> *,"
        + " 3 times build(1, 4, 9) -> *";

    private TellSentences() {
    }

    static void hold() {
        fault();
        reason();
        bundleOf();
        storeyOf();
        strength();
        weakest();
        oldest();
        crewOf();
        inspectorOf();
        highest();
        wouldFall();
        oldIn();
        oldInStorms();
        doneIn();
        describe();
        written();
        work();
        meanStrength();
        doneShare();
        accountOfDays();
        accountOfPoles();
        accountOfCrews();
        accountSoFar();
    }

    private static void promise(int number, String words, String... calls) {
        Sentence.holds("Promise " + number, words, calls);
    }

    /** Each change once, and a line; a crew is on the ground before. */
    private static final String EACH_CHANGE = "bundle(30, 0) -> 0, strips(1) -> 61, build(0, 4, 9) -> 0, day(20) -> 0, inspector(9) -> 0,"
        + " inspect(0, 0) -> 1, tie(0) -> 20, crew(1) -> *, up(0, 0) -> 1, lift(0, 1) -> 19, down(0) -> 0, signal(2) -> 0, describe() -> 7,"
        + " save() -> 20, undo() -> 7, restore() -> 20, type \"n1;g1\" -> 5, script() -> 2";

    private static void fault() {
        promise(17, "Returns the fault position of the latest text that had a fault.", "type \"g1;g\" -> 4",
            "script() -> BAD, fault() -> 4, type \"x\" -> 1, script() -> BAD, fault() -> 0, type \"g1\" -> 2",
            "script() -> 1, fault() -> 0, type \"t0\" -> 2, script() -> REFUSED, fault() -> 0, type \"n77;n777\" -> 8",
            "fault() -> 0, script() -> BAD, fault() -> 7");
        promise(17, "Returns the position", "script() -> BAD, fault() -> 0, 60 times append('0') -> *, script() -> BAD",
            "fault() -> 0, type \"g0;g0;g0;g0;g0;g0;g0;g0;g0;g0;g0;g0;g0;g0;g0;g0;g0;g0;g0;g0;\" -> 60, script() -> BAD",
            "fault() -> 60");
        promise(17, "the latest text that had a fault", "type \"g1;\" -> 3, script() -> BAD", EACH_CHANGE, "fault() -> 3",
            "clear() -> 21, fault() -> 3, type \"d0\" -> 2, script() -> REFUSED, fault() -> 3");
        promise(17, "NOTHING if none had one", EACH_CHANGE, "fault() -> NOTHING");
        promise(17, "NOTHING if none had one", "fault() -> NOTHING, type \"g1\" -> 2, script() -> 1, fault() -> NOTHING",
            "type \"t0\" -> 2, script() -> REFUSED, fault() -> NOTHING, append(31) -> BAD, append('x') -> 1",
            "fault() -> NOTHING");
    }

    private static void reason() {
        String words = "Returns the reason for which something was refused last, one that stands behind it, or a detail.";
        promise(18, words, "crew(1) -> 0, down(0) -> REFUSED, reason(0, false) -> 11, reason(0, true) -> 0",
            "3 times inspector(1) -> *, reason(0, false) -> 11, inspector(1) -> REFUSED, reason(0, false) -> 1",
            "reason(0, true) -> 3, inspector(0) -> BAD, up(0, 0) -> NONE, undo() -> *, clear() -> 0",
            "reason(0, false) -> 1, reason(0, true) -> 3");
        promise(18, words, "crew(1) -> 0, down(0) -> REFUSED", EACH_CHANGE, "reason(0, false) -> 11",
            "reason(0, true) -> 0, clear() -> 21, reason(0, false) -> 11, type \"g\" -> 1, script() -> BAD",
            "reason(0, false) -> 11, reason(0, true) -> 0");
        promise(18, words, THREE, "crew(1) -> 0, inspector(9) -> 0, type \"n12;i0@2;u0@2\" -> 13, script() -> REFUSED",
            "reason(2, false) -> 13, down(0) -> REFUSED, reason(0, false) -> 11, reason(1, false) -> NOTHING",
            "reason(2, false) -> NOTHING");
        String shut = "2 times inspector(9) -> *, type \"n12;i1@2;u0@2\" -> 13, script() -> REFUSED";
        promise(18, "`depth`: 0 for the reason, 1 for the one behind it, and so on", THREE, "crew(1) -> 0", shut,
            "reason(0, false) -> 12, reason(1, false) -> 6, reason(2, false) -> 13, reason(3, false) -> NOTHING");
        promise(18, "`isDetail`: true for the detail, false for the reason", THREE, "crew(1) -> 0", shut,
            "reason(0, true) -> 2, reason(1, true) -> 2, reason(2, true) -> 1, reason(3, true) -> NOTHING");
        promise(18, "Returns the number", "2 times crew(1) -> *, down(1) -> REFUSED, reason(0, false) -> 11",
            "reason(0, true) -> 1");
        promise(18, "BAD if depth is less than 0", "reason(-1, false) -> BAD, reason(-1, true) -> BAD, crew(1) -> 0",
            "down(0) -> REFUSED",
            "reason(-1, false) -> BAD, reason(" + LEAST + ", true) -> BAD, reason(" + LEAST + ", false) -> BAD, reason(0, true) -> 0");
        promise(18, "NOTHING if nothing was refused", EACH_CHANGE, "reason(0, false) -> NOTHING",
            "reason(0, true) -> NOTHING");
        promise(18, "NOTHING if nothing was refused",
            "reason(0, false) -> NOTHING, reason(0, true) -> NOTHING, reason(" + MOST + ", true) -> NOTHING",
            "crew(0) -> BAD, up(0, 0) -> NONE, script() -> BAD, undo() -> NOTHING, reason(0, false) -> NOTHING",
            "reason(0, true) -> NOTHING");
        promise(18, "or there is no such reason behind it", "crew(1) -> 0, down(0) -> REFUSED",
            "reason(1, false) -> NOTHING",
            "reason(1, true) -> NOTHING, reason(2, false) -> NOTHING, reason(" + MOST + ", false) -> NOTHING, type \"d0\" -> 2",
            "script() -> REFUSED, reason(1, false) -> 11, reason(2, false) -> NOTHING, reason(2, true) -> NOTHING");
    }

    private static void bundleOf() {
        promise(19, "Returns the poles of a bundle, or their age.", "bundle(30, 8) -> 0, build(0, 6, 0) -> 0, day(7) -> 0",
            "bundleOf(0, false) -> 24, bundleOf(0, true) -> 9");
        promise(19, "`bundle`: the bundle", "8 times bundle(9, 1) -> *, undo() -> 7, bundle(8, 2) -> 7",
            "bundleOf(7, false) -> 8, bundleOf(7, true) -> 2, bundleOf(0, false) -> 9, bundleOf(0, true) -> 1");
        promise(19, "`isAge`: true for the age, false for how many there are", "bundle(1, 60) -> 0, bundle(30, 0) -> 1",
            "bundleOf(0, true) -> 60, bundleOf(0, false) -> 1, bundleOf(1, true) -> 0, bundleOf(1, false) -> 30");
        promise(19, "Returns the number", "bundle(8, 0) -> 0, build(0, 8, 0) -> 0, bundleOf(0, false) -> 0",
            "bundleOf(0, true) -> 0");
        promise(19, "NONE if there is no such bundle", "bundleOf(0, false) -> NONE, bundleOf(0, true) -> NONE",
            "bundle(9, 9) -> 0",
            "bundleOf(1, true) -> NONE, bundleOf(-1, false) -> NONE, bundleOf(8, true) -> NONE, bundleOf(" + LEAST + ", true) -> NONE",
            "bundleOf(" + MOST + ", false) -> NONE, 7 times bundle(9, 9) -> *, bundleOf(8, true) -> NONE, bundleOf(7, true) -> 9",
            "clear() -> 0, bundleOf(0, true) -> NONE");
    }

    private static void storeyOf() {
        promise(20, "Returns a number of a storey.", THREE, "day(2) -> 0, tie(1) -> 2, lift(1, 4) -> 12",
            "storeyOf(0, 2) -> 2, storeyOf(1, 2) -> 0, storeyOf(1, 4) -> 4, storeyOf(2, 4) -> 0");
        promise(20, "`storey`: the storey", TEN, "lift(9, 1) -> 10, storeyOf(9, 4) -> 1, storeyOf(8, 4) -> 0",
            "storeyOf(0, 4) -> 0");
        promise(20, "`what`: 0 its poles", "bundle(30, 0) -> 0, build(0, 4, 0) -> 0, build(0, 8, 0) -> 1",
            "storeyOf(0, 0) -> 4, storeyOf(1, 0) -> 8");
        promise(20, "1 their age", "bundle(9, 60) -> 0, bundle(9, 0) -> 1, build(0, 4, 0) -> 0, build(1, 4, 0) -> 1",
            "storeyOf(0, 1) -> 60, storeyOf(1, 1) -> 0, day(7) -> 0, storeyOf(0, 1) -> 60, storeyOf(1, 1) -> 1");
        promise(20, "1 their age", "strips(99) -> *, bundle(30, 17) -> 0, bundle(30, 23) -> 1",
            "7 times build(0, 4, 0) -> *, 3 times build(1, 4, 0) -> *, storeyOf(6, 1) -> 17, storeyOf(9, 1) -> 23",
            "day(7) -> 0, storeyOf(0, 1) -> 18, storeyOf(9, 1) -> 24, save() -> 7, restore() -> 7, storeyOf(9, 1) -> 24",
            "strength(9, false) -> 7, strength(9, true) -> 7");
        promise(20, "2 the age of its tie", ONE, "storeyOf(0, 2) -> 0, day(30) -> 0, storeyOf(0, 2) -> 30",
            "3 times day(30) -> 0, storeyOf(0, 2) -> 99");
        promise(20, "3 its hours of work", "bundle(30, 0) -> 0, build(0, 4, 40) -> 0, build(0, 4, 0) -> 1",
            "storeyOf(0, 3) -> 40, storeyOf(1, 3) -> 0, crew(4) -> 0, up(0, 0) -> 1, lift(0, 9) -> 11, day(9) -> 0",
            "storeyOf(0, 3) -> 4, lift(0, 2) -> 18, day(2) -> 0, storeyOf(0, 3) -> 0");
        promise(20, "4 its loads", ONE, "storeyOf(0, 4) -> 0, lift(0, 9) -> 11, storeyOf(0, 4) -> 9, crew(1) -> 0",
            "up(0, 0) -> 1, day(9) -> 0, storeyOf(0, 4) -> 0, day(1) -> 0, storeyOf(0, 4) -> 0");
        promise(20, "5 for 1 if it is shut, otherwise 0", THREE, "inspector(9) -> 0, day(12) -> 0, storeyOf(1, 5) -> 0",
            "inspect(0, 1) -> 1, storeyOf(1, 5) -> 1, storeyOf(0, 5) -> 0, storeyOf(2, 5) -> 0, inspect(0, 1) -> 1",
            "storeyOf(1, 5) -> 1, tie(1) -> 12, storeyOf(1, 5) -> 0");
        promise(20, "5 for 1 if it is shut, otherwise 0", ONE, "inspector(1) -> 0, inspector(9) -> 1, inspector(9) -> 2",
            "day(12) -> 0, inspect(2, 0) -> 1, storeyOf(0, 5) -> 1");
        promise(20, "6 its crews, as bits, bit k for the crew k", THREE, "5 times crew(1) -> *, storeyOf(0, 6) -> 0",
            "up(0, 0) -> 1, storeyOf(0, 6) -> 1, up(1, 0) -> 2, storeyOf(0, 6) -> 3, up(4, 1) -> 1, storeyOf(1, 6) -> 16",
            "up(3, 1) -> 2, storeyOf(1, 6) -> 24, up(2, 1) -> 3, up(0, 1) -> 4, up(1, 1) -> 5, storeyOf(1, 6) -> 31",
            "storeyOf(0, 6) -> 0");
        promise(20, "Returns the number", ONE, "storeyOf(0, 0) -> 4, storeyOf(0, 3) -> 9");
        promise(20, "NONE if there is no such storey", "storeyOf(0, 0) -> NONE", THREE, "storeyOf(3, 0) -> NONE",
            "storeyOf(-1, 0) -> NONE",
            "storeyOf(10, 6) -> NONE, storeyOf(" + MOST + ", 5) -> NONE, storeyOf(" + LEAST + ", 6) -> NONE, storeyOf(2, 0) -> 4",
            "undo() -> 3, storeyOf(2, 0) -> NONE");
        promise(20, "BAD if there is no such what", ONE,
            "storeyOf(0, -1) -> BAD, storeyOf(0, 7) -> BAD, storeyOf(0, " + MOST + ") -> BAD",
            "storeyOf(0, " + LEAST + ") -> BAD, storeyOf(0, 6) -> 0");
    }

    private static void strength() {
        String second = "step by step, from what one of its poles is, poles up, fifths of the age of its tie and halves of its number down,"
            + " and at least 0 at the end";
        promise(21, "Returns by how much a storey is strong", "bundle(30, 17) -> 0, 4 times build(0, 5, 0) -> *",
            "day(9) -> 0, storeyOf(3, 1) -> 18, storeyOf(3, 2) -> 9, strength(3, false) -> 12, strength(0, false) -> 13");
        promise(21, second, "bundle(30, 17) -> 0, 4 times build(0, 5, 0) -> *, strength(3, true) -> 14, day(4) -> 0",
            "strength(3, true) -> 14, day(1) -> 0, strength(3, true) -> 13, day(4) -> 0, strength(3, true) -> 12",
            "strength(0, true) -> 13");
        promise(21, second, "bundle(30, 60) -> 0, build(0, 4, 0) -> 0, build(0, 4, 0) -> 1, build(0, 4, 0) -> 2",
            "day(24) -> 0, strength(0, true) -> 2, strength(2, true) -> 1, day(1) -> 0, strength(0, true) -> 1",
            "strength(2, true) -> 0, day(5) -> 0, strength(0, true) -> 0, strength(2, true) -> 0, day(30) -> 0",
            "strength(2, true) -> 0, day(30) -> 0, day(30) -> 0, strength(2, true) -> 0, strength(2, false) -> 0");
        promise(21, second, "bundle(30, 60) -> 0, build(0, 8, 0) -> 0, day(29) -> 0, strength(0, true) -> 5, day(20) -> 0",
            "strength(0, true) -> 1, day(1) -> 0, strength(0, true) -> 0, tie(0) -> 50, strength(0, true) -> 10");
        String same = "or the same by a second way";
        promise(21, same, "bundle(9, 7) -> 0, bundle(30, 44) -> 1, build(0, 7, 0) -> 0, build(1, 6, 0) -> 1, build(1, 5, 0) -> 2",
            "strength(0, false) -> 18, strength(0, true) -> 18, strength(1, false) -> 11, strength(1, true) -> 11",
            "strength(2, false) -> 9, strength(2, true) -> 9, signal(9) -> 0, day(1) -> 0, strength(2, false) -> 9",
            "strength(2, true) -> 9, day(2) -> 1, strength(0, false) -> 16, strength(0, true) -> 16",
            "strength(1, false) -> 9, strength(1, true) -> 9");
        promise(21, "`storey`: the storey", TEN, "strength(9, false) -> 12, strength(9, true) -> 12",
            "strength(0, false) -> 16");
        promise(21, "`isAgain`: true for the second way", "bundle(30, 59) -> 0, build(0, 8, 0) -> 0",
            "strength(0, true) -> 11, strength(0, false) -> 11");
        promise(21, "Returns the number", "bundle(8, 0) -> 0, build(0, 8, 0) -> 0, strength(0, false) -> 20",
            "strength(0, true) -> 20");
        promise(21, "NONE if there is no such storey", "strength(0, false) -> NONE, strength(0, true) -> NONE", THREE,
            "strength(3, false) -> NONE, strength(3, true) -> NONE, strength(-1, false) -> NONE, strength(-1, true) -> NONE",
            "strength(" + MOST + ", true) -> NONE, strength(" + LEAST + ", false) -> NONE, strength(10, true) -> NONE");
    }

    private static void weakest() {
        String words = "Returns the storey that is the least strong, of several the lowest one.";
        promise(22, words, "bundle(30, 0) -> 0, build(0, 6, 0) -> 0, build(0, 5, 0) -> 1, build(0, 7, 0) -> 2",
            "weakest() -> 1, build(0, 5, 0) -> 3, weakest() -> 3");
        promise(22, words, "bundle(30, 0) -> 0, 2 times build(0, 4, 0) -> *, weakest() -> 0, build(0, 6, 0) -> 2",
            "weakest() -> 0");
        promise(22, words, "bundle(30, 0) -> 0, build(0, 6, 0) -> 0, build(0, 4, 0) -> 1, build(0, 5, 0) -> 2",
            "strength(2, true) -> 16, strength(1, true) -> 16, weakest() -> 1");
        promise(22, words, "bundle(30, 60) -> 0, 3 times build(0, 4, 0) -> *, weakest() -> 2, day(30) -> 0, weakest() -> 0");
        promise(22, "Returns the storey", TEN, "weakest() -> 8, tie(9) -> REFUSED, day(5) -> 0, tie(8) -> 5",
            "weakest() -> 9, tie(9) -> 5, weakest() -> 6");
        promise(22, "Returns the storey", "bundle(30, 0) -> 0, bundle(30, 60) -> 1, build(0, 8, 0) -> 0",
            "build(1, 4, 0) -> 1, weakest() -> 1, signal(8) -> 0, day(1) -> 1, weakest() -> 0");
        promise(22, "NOTHING if none stands", "weakest() -> NOTHING, bundle(30, 60) -> 0, build(0, 4, 0) -> 0",
            "weakest() -> 0, signal(8) -> 0, day(1) -> 1, weakest() -> NOTHING, undo() -> *, weakest() -> 0",
            "clear() -> 0, weakest() -> NOTHING");
    }

    private static void oldest() {
        String words = "Returns a storey by the age of its tie, the oldest first, of several the highest one.";
        promise(23, words, THREE, "oldest(0) -> 2, oldest(1) -> 1, oldest(2) -> 0, day(1) -> 0, tie(1) -> 1, day(1) -> 0",
            "tie(2) -> 2, oldest(0) -> 0, oldest(1) -> 1, oldest(2) -> 2");
        promise(23, words, THREE, "day(2) -> 0, build(0, 4, 0) -> 3, oldest(0) -> 2, oldest(1) -> 1, oldest(2) -> 0",
            "oldest(3) -> 3, tie(2) -> 2, oldest(0) -> 1, oldest(1) -> 0, oldest(2) -> 3, oldest(3) -> 2");
        promise(23, words, "bundle(30, 0) -> 0, build(0, 4, 0) -> 0, 3 times day(30) -> 0, build(0, 4, 0) -> 1",
            "oldest(0) -> 0, oldest(1) -> 1, 4 times day(30) -> 0, oldest(0) -> 1, oldest(1) -> 0");
        promise(23, "`place`: the place, from 0", TEN, "oldest(0) -> 9, oldest(1) -> 8, oldest(9) -> 0",
            "oldest(10) -> NONE, oldest(-1) -> NONE");
        promise(23, "Returns the storey", ONE, "oldest(0) -> 0");
        promise(23, "NONE if there is no such place", "oldest(0) -> NONE, oldest(-1) -> NONE", THREE, "oldest(3) -> NONE",
            "oldest(-1) -> NONE",
            "oldest(" + MOST + ") -> NONE, oldest(" + LEAST + ") -> NONE, oldest(2) -> 0, undo() -> 3, oldest(2) -> NONE");
    }

    private static void crewOf() {
        promise(24, "Returns a number of a crew.", THREE, "crew(2) -> 0, crew(3) -> 1, up(1, 2) -> 1, crewOf(0, 0) -> 2",
            "crewOf(1, 0) -> 3, crewOf(0, 1) -> NOTHING, crewOf(1, 1) -> 2");
        promise(24, "`crew`: the crew", ONE, "5 times crew(1) -> *, up(4, 0) -> 1, crewOf(4, 1) -> 0",
            "crewOf(0, 1) -> NOTHING");
        promise(24, "`what`: 0 its skill", "crew(1) -> 0, crew(4) -> 1, crewOf(0, 0) -> 1, crewOf(1, 0) -> 4");
        promise(24, "1 its storey, or NOTHING on the ground", TEN, "crew(1) -> 0, crewOf(0, 1) -> NOTHING, up(0, 0) -> 1",
            "crewOf(0, 1) -> 0, up(0, 9) -> 1, crewOf(0, 1) -> 9, down(0) -> 9, crewOf(0, 1) -> NOTHING");
        String words = "2 for 1 if it would work on this day, otherwise 0";
        promise(24, words, ONE, "crew(1) -> 0, lift(0, 1) -> 19, crewOf(0, 2) -> 0, up(0, 0) -> 1, crewOf(0, 2) -> 1, look",
            "crewOf(0, 2) -> 1, all same, day(1) -> 0, crewOf(0, 2) -> 0, lift(0, 1) -> 19, crewOf(0, 2) -> 1");
        promise(24, words, ONE, "crew(1) -> 0, up(0, 0) -> 1, day(20) -> 0, lift(0, 1) -> 19, crewOf(0, 2) -> 1",
            "day(1) -> 0, lift(0, 1) -> 19, crewOf(0, 2) -> 0, tie(0) -> 21, crewOf(0, 2) -> 1");
        promise(24, words, THREE, "crew(1) -> 0, up(0, 1) -> 1, day(20) -> 0, lift(1, 1) -> 18, tie(1) -> 20",
            "crewOf(0, 2) -> 1, undo() -> *, tie(2) -> 20, day(1) -> 0, lift(1, 1) -> 18, tie(1) -> 21",
            "crewOf(0, 2) -> 0, strips(99) -> *, tie(0) -> 21, crewOf(0, 2) -> 1");
        promise(24, words, ONE, "crew(4) -> 0, up(0, 0) -> 1, lift(0, 9) -> 11, day(2) -> 0, crewOf(0, 2) -> 1",
            "day(1) -> 0, crewOf(0, 2) -> 0, storeyOf(0, 4) -> 6");
        promise(24, "3 the hours of work that it did so far", ONE, "crew(2) -> 0, crewOf(0, 3) -> 0, up(0, 0) -> 1",
            "lift(0, 9) -> 11, day(1) -> 0, crewOf(0, 3) -> 2, day(3) -> 0, crewOf(0, 3) -> 8, day(1) -> 0",
            "crewOf(0, 3) -> 9, day(1) -> 0, crewOf(0, 3) -> 9, down(0) -> 0, crewOf(0, 3) -> 9, undo() -> *",
            "undo() -> *, undo() -> *, crewOf(0, 3) -> 8");
        promise(24, "3 the hours of work that it did so far", ONE, "5 times crew(4) -> *, up(4, 0) -> 1",
            "lift(0, 1) -> 19, day(1) -> 0, crewOf(4, 3) -> 4, crewOf(0, 3) -> 0, save() -> 1, restore() -> 1",
            "crewOf(4, 3) -> 4");
        promise(24, "3 the hours of work that it did so far", "bundle(30, 60) -> 0, build(0, 4, 9) -> 0, crew(2) -> 0",
            "up(0, 0) -> 1, lift(0, 9) -> 11, day(1) -> 0, signal(8) -> 0, day(1) -> 1, crewOf(0, 3) -> 2");
        promise(24, "Returns the number", "crew(3) -> 0, crewOf(0, 0) -> 3, crewOf(0, 3) -> 0");
        promise(24, "NONE if there is no such crew", "crewOf(0, 0) -> NONE, crew(1) -> 0, crewOf(1, 0) -> NONE",
            "crewOf(-1, 2) -> NONE",
            "crewOf(5, 1) -> NONE, crewOf(" + MOST + ", 2) -> NONE, crewOf(" + LEAST + ", 2) -> NONE, 4 times crew(1) -> *",
            "crewOf(5, 2) -> NONE, crewOf(4, 0) -> 1");
        promise(24, "BAD if there is no such what",
            "crew(1) -> 0, crewOf(0, -1) -> BAD, crewOf(0, 4) -> BAD, crewOf(0, " + MOST + ") -> BAD",
            "crewOf(0, " + LEAST + ") -> BAD, crewOf(0, 3) -> 0");
    }

    private static void inspectorOf() {
        promise(25, "Returns a number of an inspector.", "inspector(3) -> 0, inspector(4) -> 1, inspectorOf(0, 0) -> 3",
            "inspectorOf(1, 0) -> 4");
        promise(25, "`inspector`: the inspector", ONE, "3 times inspector(9) -> *, day(12) -> 0, inspect(2, 0) -> 1",
            "inspectorOf(2, 1) -> 1, inspectorOf(2, 2) -> 1, inspectorOf(0, 1) -> 0, inspectorOf(0, 2) -> 0");
        promise(25, "`what`: 0 the nose", "inspector(1) -> 0, inspector(9) -> 1, inspectorOf(0, 0) -> 1",
            "inspectorOf(1, 0) -> 9");
        promise(25, "1 the storeys that are shut by this inspector", THREE, "2 times inspector(9) -> *, day(12) -> 0",
            "inspectorOf(0, 1) -> 0, inspect(0, 0) -> 1, inspectorOf(0, 1) -> 1, inspect(0, 2) -> 1",
            "inspectorOf(0, 1) -> 2, inspect(1, 2) -> 1, inspect(1, 1) -> 1, inspectorOf(0, 1) -> 2",
            "inspectorOf(1, 1) -> 1, tie(2) -> 12, inspectorOf(0, 1) -> 1");
        promise(25, "1 the storeys that are shut by this inspector", "bundle(30, 0) -> 0, bundle(9, 60) -> 1",
            "build(0, 8, 0) -> 0, build(1, 4, 0) -> 1, inspector(9) -> 0, day(12) -> 0, inspect(0, 0) -> 1",
            "inspect(0, 1) -> 1, inspectorOf(0, 1) -> 2, signal(8) -> 0, day(1) -> 1, inspectorOf(0, 1) -> 1",
            "inspectorOf(0, 2) -> 2");
        promise(25, "1 the storeys that are shut by this inspector", TEN, "inspector(9) -> 0, day(12) -> 0",
            "inspect(0, 0) -> 1, inspect(0, 1) -> 1, inspect(0, 2) -> 1, inspect(0, 3) -> 1, inspect(0, 4) -> 1",
            "inspect(0, 5) -> 1, inspect(0, 6) -> 1, inspect(0, 7) -> 1, inspect(0, 8) -> 1, inspect(0, 9) -> 1",
            "inspectorOf(0, 1) -> 10, account(5) -> 10");
        promise(25, "2 how often this inspector found a storey bad so far", ONE, "2 times inspector(9) -> *",
            "inspect(0, 0) -> 0, day(12) -> 0, inspectorOf(0, 2) -> 0, inspect(0, 0) -> 1, inspect(0, 0) -> 1",
            "inspect(1, 0) -> 1, inspectorOf(0, 2) -> 2, inspectorOf(1, 2) -> 1, tie(0) -> 12, inspect(0, 0) -> 0",
            "inspectorOf(0, 2) -> 2");
        promise(25, "Returns the number", "inspector(5) -> 0, inspectorOf(0, 0) -> 5, inspectorOf(0, 1) -> 0",
            "inspectorOf(0, 2) -> 0");
        promise(25, "NONE if there is no such inspector", "inspectorOf(0, 0) -> NONE, inspector(1) -> 0",
            "inspectorOf(1, 0) -> NONE",
            "inspectorOf(-1, 1) -> NONE, inspectorOf(3, 1) -> NONE, inspectorOf(" + MOST + ", 2) -> NONE, inspectorOf(" + LEAST + ", 1) -> NONE",
            "2 times inspector(1) -> *, inspectorOf(3, 1) -> NONE, inspectorOf(2, 0) -> 1");
        promise(25, "BAD if there is no such what", "inspector(1) -> 0, inspectorOf(0, -1) -> BAD, inspectorOf(0, 3) -> BAD",
            "inspectorOf(0, " + MOST + ") -> BAD, inspectorOf(0, " + LEAST + ") -> BAD, inspectorOf(0, 2) -> 0");
    }

    private static void highest() {
        String words = "Returns the highest storey to which a crew could go up, as far as the signal, ties and shut storeys are concerned.";
        promise(26, words, THREE, "highest() -> 2, signal(2) -> 0, highest() -> 2, signal(3) -> 2, highest() -> NOTHING",
            "signal(0) -> 3, highest() -> 2, day(1) -> 0, build(0, 4, 0) -> 3, day(20) -> 0, highest() -> NOTHING",
            "tie(0) -> 21, highest() -> 0");
        promise(26, words, THREE, "day(20) -> 0, highest() -> 2, tie(2) -> 20, day(1) -> 0, tie(0) -> 21, highest() -> 0",
            "strips(99) -> *, tie(1) -> 21, highest() -> 2");
        promise(26, words, THREE, "inspector(9) -> 0, day(12) -> 0, inspect(0, 1) -> 1, highest() -> 2",
            "inspect(0, 2) -> 1, highest() -> 0, tie(2) -> 12, highest() -> 2, crew(1) -> 0, up(0, 2) -> 1",
            "highest() -> 2");
        promise(26, "Returns the storey", TEN, "highest() -> 9, undo() -> 7, highest() -> 8");
        promise(26, "NOTHING if there is none", "highest() -> NOTHING", ONE, "highest() -> 0, signal(10) -> 0",
            "highest() -> NOTHING, signal(0) -> 10, day(21) -> 0, highest() -> NOTHING");
        promise(26, "Returns the storey", TEN, "undo() -> 7, highest() -> 8, undo() -> 6, highest() -> 7, clear() -> 0",
            "highest() -> NOTHING");
        promise(26, "NOTHING if there is none", ONE, "inspector(9) -> 0, day(12) -> 0, inspect(0, 0) -> 1",
            "highest() -> NOTHING, tie(0) -> 12, highest() -> 0");
    }

    private static void wouldFall() {
        String words = "Returns the lowest storey that is strong by less than a signal now, whatever the signal is.";
        String four = "bundle(30, 60) -> 0, bundle(30, 0) -> 1, build(1, 4, 0) -> 0, build(0, 8, 0) -> 1, build(0, 8, 0) -> 2, build(0, 7, 0) -> 3";
        promise(27, words, four, "strength(1, true) -> 10, strength(2, true) -> 9, strength(3, true) -> 8",
            "wouldFall(8) -> NOTHING, wouldFall(9) -> 3, wouldFall(10) -> 2, signal(10) -> 0, wouldFall(8) -> NOTHING",
            "wouldFall(9) -> 3, signal(1) -> 10, wouldFall(10) -> 2, account(4) -> 4");
        promise(27, words, "bundle(30, 60) -> 0, 3 times build(0, 4, 0) -> *, wouldFall(8) -> 0, wouldFall(10) -> 0",
            "look, wouldFall(9) -> 0, all same");
        promise(27, "`signal`: the signal, from 8 to 10", four, "wouldFall(7) -> BAD, wouldFall(8) -> NOTHING",
            "wouldFall(10) -> 2, wouldFall(11) -> BAD");
        promise(27, "Returns the storey", "bundle(30, 60) -> 0, build(0, 8, 0) -> 0, build(0, 6, 0) -> 1",
            "wouldFall(8) -> NOTHING, wouldFall(9) -> 1");
        promise(27, "BAD if it is out of range",
            "wouldFall(7) -> BAD, wouldFall(11) -> BAD, wouldFall(0) -> BAD, wouldFall(" + MOST + ") -> BAD",
            "wouldFall(" + LEAST + ") -> BAD, bundle(30, 60) -> 0, build(0, 4, 0) -> 0, wouldFall(7) -> BAD, wouldFall(11) -> BAD, wouldFall(-1) -> BAD");
        promise(27, "NOTHING if none is", "bundle(30, 0) -> 0, bundle(30, 60) -> 1, build(0, 8, 0) -> 0",
            "build(1, 4, 0) -> 1, wouldFall(8) -> 1, signal(8) -> 0, day(1) -> 1, wouldFall(8) -> NOTHING",
            "wouldFall(10) -> NOTHING");
        promise(27, "NOTHING if none is", "wouldFall(8) -> NOTHING, wouldFall(10) -> NOTHING, bundle(30, 60) -> 0",
            "build(0, 8, 0) -> 0, wouldFall(10) -> NOTHING, day(4) -> 0, wouldFall(10) -> NOTHING, day(1) -> 0",
            "wouldFall(10) -> 0, wouldFall(9) -> NOTHING");
    }

    private static void oldIn() {
        String words = "Returns in how many days the tie of a storey is old, if nothing but days pass, as long as it stands.";
        promise(28, words, THREE, "oldIn(0) -> 21, day(5) -> 0, tie(1) -> 5, oldIn(0) -> 16, oldIn(1) -> 21",
            "oldIn(2) -> 16, signal(7) -> 0, oldIn(0) -> 16, look, oldIn(1) -> 21, all same, day(15) -> 0, oldIn(0) -> 1",
            "oldIn(1) -> 6, day(1) -> 0, oldIn(0) -> 0");
        promise(28, words, "bundle(30, 0) -> 0, build(0, 8, 0) -> 0, signal(8) -> 0, oldIn(0) -> 6, day(5) -> 0",
            "storeyOf(0, 2) -> 20, oldIn(0) -> 1, day(1) -> 0, oldIn(0) -> 0");
        promise(28, words, "bundle(30, 0) -> 0, build(0, 8, 0) -> 0, day(1) -> 0, signal(8) -> 0, oldIn(0) -> 5",
            "signal(0) -> 8, day(15) -> 0, signal(10) -> 0, oldIn(0) -> 2, signal(0) -> 10, day(1) -> 0, signal(10) -> 0",
            "oldIn(0) -> 1");
        promise(28, "`storey`: the storey", TEN, "day(3) -> 0, tie(9) -> 3, oldIn(9) -> 21, oldIn(8) -> 18, oldIn(0) -> 18");
        promise(28, "Returns the number of days, 0 if it is now", ONE, "day(20) -> 0, oldIn(0) -> 1, day(1) -> 0",
            "oldIn(0) -> 0, day(30) -> 0, oldIn(0) -> 0, 3 times day(30) -> 0, oldIn(0) -> 0");
        promise(28, "0 if it is now", ONE, "day(21) -> 0, signal(10) -> 0, oldIn(0) -> 0, wouldFall(10) -> NOTHING",
            "signal(0) -> 10, day(30) -> 0, wouldFall(10) -> 0, signal(10) -> 0, oldIn(0) -> 0, day(1) -> 1",
            "oldIn(0) -> NONE");
        promise(28, "NONE if there is no such storey", "oldIn(0) -> NONE", THREE, "oldIn(3) -> NONE, oldIn(-1) -> NONE",
            "oldIn(10) -> NONE", "oldIn(" + MOST + ") -> NONE, oldIn(" + LEAST + ") -> NONE, oldIn(2) -> 21");
    }

    private static void oldInStorms() {
        String words = "NOTHING if it falls before or on the day on which it would be";
        promise(28, words, "bundle(30, 60) -> 0, build(0, 4, 0) -> 0, signal(7) -> 0, oldIn(0) -> 21, signal(8) -> 7",
            "oldIn(0) -> NOTHING, day(1) -> 1, oldIn(0) -> NONE");
        promise(28, words, "bundle(30, 60) -> 0, bundle(30, 0) -> 1, build(1, 4, 0) -> 0, strength(0, true) -> 16",
            "day(17) -> 0, strength(0, true) -> 13, signal(10) -> 0, oldIn(0) -> 1, signal(0) -> 10, undo() -> 5",
            "undo() -> 4, undo() -> 3, build(0, 6, 0) -> 1, day(17) -> 0, strength(1, true) -> 5, signal(8) -> 0",
            "oldIn(1) -> NOTHING, oldIn(0) -> 1");
        // On the day on which its tie is 21 days old it is strong by just 8.
        promise(28, words, "bundle(30, 41) -> 0, build(0, 7, 0) -> 0, day(17) -> 0, strength(0, true) -> 9, signal(9) -> 0",
            "oldIn(0) -> NOTHING, signal(8) -> 9, oldIn(0) -> 1, day(1) -> 0, storeyOf(0, 2) -> 21, oldIn(0) -> 0");
        promise(28, words, "bundle(30, 0) -> 0, bundle(9, 60) -> 1, build(0, 8, 0) -> 0, build(1, 4, 0) -> 1",
            "build(0, 8, 0) -> 2, signal(8) -> 0, oldIn(0) -> 6, oldIn(1) -> NOTHING, oldIn(2) -> NOTHING");
    }

    private static void doneIn() {
        String words = "Returns in how many days the work of a storey is done, if nothing but days pass.";
        promise(29, words, ONE, "crew(2) -> 0, up(0, 0) -> 1, lift(0, 9) -> 11, look, doneIn(0) -> 5, all same",
            "day(4) -> 0, doneIn(0) -> 1, day(1) -> 0, doneIn(0) -> 0");
        promise(29, words, ONE, "crew(2) -> 0, crew(3) -> 1, up(0, 0) -> 1, up(1, 0) -> 2, lift(0, 3) -> 17",
            "doneIn(0) -> NOTHING, lift(0, 1) -> 16, doneIn(0) -> 2, undo() -> *, undo() -> *, lift(0, 4) -> 16",
            "day(1) -> 0, storeyOf(0, 3) -> 4, doneIn(0) -> 1");
        promise(29, words, ONE, "crew(3) -> 0, up(0, 0) -> 1, lift(0, 3) -> 17, doneIn(0) -> 3, day(18) -> 0",
            "undo() -> *, down(0) -> 0, day(18) -> 0, up(0, 0) -> 1, doneIn(0) -> 3, day(1) -> 0, doneIn(0) -> 2",
            "down(0) -> 0, doneIn(0) -> NOTHING");
        promise(29, words, ONE, "crew(3) -> 0, lift(0, 3) -> 17, day(19) -> 0, up(0, 0) -> 1, doneIn(0) -> NOTHING",
            "tie(0) -> 19, doneIn(0) -> 3");
        promise(29, "`storey`: the storey", TEN, "crew(4) -> 0, crew(1) -> 1, up(0, 9) -> 1, up(1, 0) -> 1",
            "lift(9, 1) -> 10, lift(0, 9) -> 1, day(1) -> 0, lift(9, 2) -> 0, doneIn(9) -> 2, doneIn(0) -> 8",
            "doneIn(8) -> NOTHING");
        promise(29, "Returns the number of days, 0 if there is none now", "bundle(30, 0) -> 0, build(0, 4, 0) -> 0",
            "build(0, 4, 1) -> 1, doneIn(0) -> 0, signal(10) -> 0, doneIn(0) -> 0, signal(0) -> 10, crew(4) -> 0",
            "up(0, 1) -> 1, lift(1, 1) -> 18, doneIn(1) -> 1, day(1) -> 0, doneIn(1) -> 0");
        promise(29, "0 if there is none now", "bundle(30, 60) -> 0, build(0, 4, 0) -> 0, signal(8) -> 0, doneIn(0) -> 0",
            "day(1) -> 1, doneIn(0) -> NONE");
        promise(29, "NONE if there is no such storey", "doneIn(0) -> NONE", THREE, "doneIn(3) -> NONE",
            "doneIn(-1) -> NONE, doneIn(10) -> NONE",
            "doneIn(" + MOST + ") -> NONE, doneIn(" + LEAST + ") -> NONE, doneIn(2) -> NOTHING");
        words = "NOTHING if it is not done within 60 days";
        promise(29, words, ONE, "doneIn(0) -> NOTHING, crew(1) -> 0, doneIn(0) -> NOTHING, up(0, 0) -> 1",
            "doneIn(0) -> NOTHING, lift(0, 8) -> 12, doneIn(0) -> NOTHING, lift(0, 1) -> 11, doneIn(0) -> 9",
            "signal(3) -> 0, doneIn(0) -> NOTHING");
        promise(29, words, "bundle(30, 0) -> 0, build(0, 4, 40) -> 0, 5 times crew(4) -> *, up(0, 0) -> 1",
            "lift(0, 9) -> 11, doneIn(0) -> NOTHING, day(2) -> 0, lift(0, 2) -> 18, undo() -> *, doneIn(0) -> NOTHING",
            "lift(0, 1) -> 19, doneIn(0) -> 8");
        promise(29, words, "bundle(30, 60) -> 0, build(0, 4, 3) -> 0, lift(0, 9) -> 11, signal(8) -> 0",
            "doneIn(0) -> NOTHING, account(4) -> 1");
    }

    private static void describe() {
        String words = "for each storey from the highest one down, with a blank between two, its number, \":\", its poles, \"p\", the age of its tie";
        promise(30, words, "bundle(30, 0) -> 0, build(0, 4, 0) -> 0, describe() -> 5, reads \"0:4p0\", day(9) -> 0",
            "build(0, 8, 0) -> 1, describe() -> 11, reads \"1:8p0 0:4p9\", day(1) -> 0, build(0, 6, 0) -> 2",
            "describe() -> 18, reads \"2:6p0 1:8p1 0:4p10\"");
        promise(30, words, "bundle(30, 0) -> 0, build(0, 4, 0) -> 0, 4 times day(30) -> 0, describe() -> 6",
            "reads \"0:4p99\"");
        promise(30, words, TEN, "describe() -> 79",
            "reads \"9:4p0w9 8:4p0w9 7:4p0w9 6:4p0w9 5:4p0w9 4:4p0w9 3:4p0w9 2:4p0w9 1:4p0w9 0:4p0w9\"");
        promise(30, "\"#\" if it is shut", "bundle(30, 0) -> 0, 2 times build(0, 4, 0) -> *, 3 times inspector(9) -> *",
            "day(12) -> 0, inspect(0, 0) -> 1, describe() -> 14, reads \"1:4p12 0:4p12#\", inspect(2, 1) -> 1",
            "tie(0) -> 12, describe() -> 13, reads \"1:4p12# 0:4p0\"");
        promise(30, "\"*\" for each crew on it", "bundle(30, 0) -> 0, 2 times build(0, 4, 0) -> *, 5 times crew(1) -> *",
            "up(4, 1) -> 1, describe() -> 12, reads \"1:4p0* 0:4p0\", up(0, 0) -> 1, up(1, 0) -> 2, up(2, 0) -> 3",
            "up(3, 0) -> 4, describe() -> 16, reads \"1:4p0* 0:4p0****\", up(4, 0) -> 5, describe() -> 16",
            "reads \"1:4p0 0:4p0*****\", signal(3) -> 0, describe() -> 11, reads \"1:4p0 0:4p0\"");
        promise(30, "and, if there is work, \"w\" and the work", "bundle(30, 0) -> 0, build(0, 4, 0) -> 0",
            "build(0, 4, 1) -> 1, build(0, 4, 10) -> 2, build(0, 4, 40) -> 3, describe() -> 31",
            "reads \"3:4p0w40 2:4p0w10 1:4p0w1 0:4p0\", crew(4) -> 0, up(0, 1) -> 1, lift(1, 1) -> 18, day(1) -> 0",
            "describe() -> 30, reads \"3:4p1w40 2:4p1w10 1:4p1* 0:4p1\"");
        promise(30, "\"bare\" if none stands", "describe() -> 4, reads \"bare\", bundle(30, 60) -> 0",
            "build(0, 4, 0) -> 0, describe() -> 5, reads \"0:4p0\", signal(8) -> 0, day(1) -> 1, describe() -> 4",
            "reads \"bare\"");
        promise(30, "as in \"1:6p3*w12 0:8p25#\"", "bundle(30, 0) -> 0, build(0, 8, 0) -> 0, day(19) -> 0",
            "inspector(9) -> 0, inspect(0, 0) -> 1, day(3) -> 0, build(0, 6, 12) -> 1, day(3) -> 0, describe() -> 16",
            "reads \"1:6p3w12 0:8p25#\", crew(1) -> 0, up(0, 1) -> REFUSED");
        promise(30, "as in \"1:6p3*w12 0:8p25#\"", "bundle(30, 0) -> 0, build(0, 8, 0) -> 0, inspector(9) -> 0",
            "crew(1) -> 0, day(17) -> 0, inspect(0, 0) -> 1, build(0, 6, 12) -> 1, day(3) -> 0, up(0, 1) -> 1",
            "describe() -> 17, reads \"1:6p3*w12 0:8p20#\", day(5) -> 0, describe() -> 17, reads \"1:6p8*w12 0:8p25#\"");
        promise(30, "Writes a line about the scaffold, in place of the one before", ONE, "describe() -> 7",
            "reads \"0:4p0w9\", clear() -> 0, reads \"0:4p0w9\", describe() -> 4, reads \"bare\", account(18) -> 0");
        promise(30, "Writes a line about the scaffold", "strips(1) -> 61, crew(1) -> 0, down(0) -> REFUSED",
            "script() -> BAD, describe() -> 4, type \"g1\" -> 2, look, describe() -> 4, all same, script() -> 1",
            "account(1) -> 1");
        promise(30, "Returns the length of the line", "strips(99) -> *, bundle(30, 0) -> 0, bundle(30, 0) -> 1",
            "6 times build(0, 5, 40) -> *, 4 times build(1, 5, 40) -> *, strips(99) -> *, inspector(9) -> 0",
            "5 times crew(4) -> *, up(0, 9) -> 1, up(1, 9) -> 2, up(2, 9) -> 3, up(3, 9) -> 4, up(4, 9) -> 5",
            "day(20) -> 0, inspect(0, 0) -> 1, inspect(0, 1) -> 1, inspect(0, 2) -> 1, inspect(0, 3) -> 1",
            "inspect(0, 4) -> 1, inspect(0, 5) -> 1, inspect(0, 6) -> 1, inspect(0, 7) -> 1, inspect(0, 8) -> 1",
            "describe() -> 113",
            "reads \"9:5p20*****w40 8:5p20#w40 7:5p20#w40 6:5p20#w40 5:5p20#w40 4:5p20#w40 3:5p20#w40 2:5p20#w40 1:5p20#w40 0:5p20#w40\"",
            "written(112) -> 48, written(113) -> NONE");
    }

    private static void written() {
        String words = "Returns the code of a character of the written line, which is empty at first.";
        promise(31, words, "written(0) -> NONE, reads \"\", describe() -> 4, written(0) -> 98, written(1) -> 97",
            "written(2) -> 114, written(3) -> 101");
        promise(31, words, "bundle(30, 0) -> 0, build(0, 4, 0) -> 0, written(0) -> NONE, describe() -> 5",
            "written(0) -> 48, written(4) -> 48");
        promise(31, words, EACH_CHANGE, "reads \"0:4p0w9\", type \"t9\" -> 2, script() -> REFUSED, type \"t\" -> 1",
            "script() -> BAD, reads \"0:4p0w9\"");
        promise(31, "`index`: its index, from 0", "describe() -> 4, written(0) -> 98, written(3) -> 101",
            "written(4) -> NONE, written(-1) -> NONE");
        promise(31, "Returns the code", ONE, "inspector(9) -> 0, crew(1) -> 0, build(0, 4, 0) -> 1, day(12) -> 0",
            "inspect(0, 0) -> 1, up(0, 1) -> 1, describe() -> 17, written(1) -> 58, written(3) -> 112, written(6) -> 42",
            "written(7) -> 32, written(14) -> 35, written(15) -> 119, written(16) -> 57, written(17) -> NONE");
        promise(31, "NONE if there is none", "written(0) -> NONE, written(-1) -> NONE, describe() -> 4",
            "written(4) -> NONE, written(-1) -> NONE",
            "written(" + MOST + ") -> NONE, written(" + LEAST + ") -> NONE, bundle(30, 0) -> 0, build(0, 4, 0) -> 0, written(4) -> NONE",
            "describe() -> 5, written(4) -> 48, written(5) -> NONE, clear() -> 0, describe() -> 4, written(4) -> NONE");
    }

    private static void work() {
        String words = "Returns the hours of work that are left on all storeys";
        String busy = "bundle(30, 60) -> 0, bundle(30, 0) -> 1, build(1, 8, 11) -> 0, build(0, 4, 7) -> 1, crew(4) -> 0, up(0, 0) -> 1, lift(0, 2) -> 18";
        promise(32, words, "work(false) -> 0", busy, "work(false) -> 18, day(1) -> 0, work(false) -> 14, signal(8) -> 0",
            "day(1) -> 1, work(false) -> 7, undo() -> *, work(false) -> 14, clear() -> 1, work(false) -> 0");
        promise(32, words, "strips(99) -> *, bundle(30, 0) -> 0, bundle(30, 0) -> 1, 7 times build(0, 4, 40) -> *",
            "3 times build(1, 4, 40) -> *, work(false) -> 400, work(true) -> 400");
        words = "what was told when they were built, less what was done, and less what was lost when storeys fell";
        promise(32, words, "work(true) -> 0", busy, "work(true) -> 18, day(1) -> 0, work(true) -> 14, signal(8) -> 0",
            "day(1) -> 1, work(true) -> 7, undo() -> *, work(true) -> 14, clear() -> 1, work(true) -> 0");
        promise(32, words, "bundle(30, 60) -> 0, build(0, 4, 7) -> 0, crew(4) -> 0, up(0, 0) -> 1, lift(0, 1) -> 19",
            "day(1) -> 0, signal(8) -> 0, save() -> 1, day(1) -> 1, work(true) -> 0, signal(0) -> 8, build(0, 4, 5) -> 0",
            "work(true) -> 5, work(false) -> 5, restore() -> 1, work(true) -> 3");
        promise(32, "or the same by a second way", busy, "lift(1, 9) -> 0, day(1) -> 0, up(0, 1) -> 1, day(1) -> 0",
            "work(false) -> 10, work(true) -> 10, save() -> 2, signal(9) -> 0, day(1) -> 1, work(false) -> 7",
            "work(true) -> 7, restore() -> 2, work(false) -> 10, work(true) -> 10, day(1) -> 0, work(false) -> 7",
            "work(true) -> 7");
        promise(32, "`isAgain`: true for the second way", busy, "day(2) -> 0, signal(9) -> 0, day(30) -> 2",
            "work(true) -> 0, work(false) -> 0");
        promise(32, "Returns the hours", ONE, "work(false) -> 9, work(true) -> 9");
    }

    private static void meanStrength() {
        String words = "Returns by how much storeys are strong on the mean: the sum divided by their number, both converted to float.";
        promise(33, words, "bundle(30, 0) -> 0, build(0, 4, 0) -> 0, meanStrength() -> 16.0, build(0, 5, 0) -> 1",
            "meanStrength() -> 16.5, build(0, 8, 0) -> 2, build(0, 4, 0) -> 3, meanStrength() -> 16.75");
        BambooTower tower = Sentence.holds("Promise 33", "both converted to float", "bundle(30, 0) -> 0",
            "build(0, 4, 0) -> 0, build(0, 5, 0) -> 1, build(0, 6, 0) -> 2");
        Notation.due("the mean of 16, 17 and 17", tower.meanStrength(), 50.0f / 3.0f);
        promise(33, "Returns the mean", "bundle(30, 60) -> 0, build(0, 4, 0) -> 0, day(30) -> 0, meanStrength() -> 0.0",
            "build(0, 8, 0) -> 1, meanStrength() -> 5.0");
        promise(33, "0.0f if none stands", "meanStrength() -> 0.0, bundle(30, 60) -> 0, meanStrength() -> 0.0",
            "build(0, 4, 0) -> 0, meanStrength() -> 6.0, signal(8) -> 0, day(1) -> 1, meanStrength() -> 0.0");
    }

    private static void doneShare() {
        String words = "Returns the share of the work that was done in all that was told so far, both numbers converted to double.";
        promise(34, words, "bundle(30, 0) -> 0, build(0, 4, 8) -> 0, crew(1) -> 0, up(0, 0) -> 1, lift(0, 9) -> 11",
            "doneShare() -> 0.0, day(1) -> 0, doneShare() -> 0.125, build(0, 4, 8) -> 1, doneShare() -> 0.0625",
            "day(7) -> 0, doneShare() -> 0.5, day(1) -> 0, doneShare() -> 0.5");
        promise(34, words, "bundle(30, 60) -> 0, build(0, 4, 8) -> 0, crew(2) -> 0, up(0, 0) -> 1, lift(0, 1) -> 19",
            "day(1) -> 0, signal(8) -> 0, day(1) -> 1, doneShare() -> 0.25, signal(0) -> 8, build(0, 4, 8) -> 0",
            "doneShare() -> 0.125");
        BambooTower tower = Sentence.holds("Promise 34", "both numbers converted to double",
            "bundle(30, 0) -> 0, build(0, 4, 3) -> 0, crew(1) -> 0, up(0, 0) -> 1, lift(0, 1) -> 19, day(1) -> 0");
        Notation.due("the share of 1 in 3", tower.doneShare(), 1.0 / 3.0);
        promise(34, "Returns the share", "bundle(30, 0) -> 0, build(0, 4, 4) -> 0, crew(4) -> 0, up(0, 0) -> 1",
            "lift(0, 1) -> 19, day(1) -> 0, doneShare() -> 1.0");
        promise(34, "0.0 if none was told", "doneShare() -> 0.0, bundle(30, 0) -> 0, build(0, 4, 0) -> 0",
            "doneShare() -> 0.0, crew(1) -> 0, up(0, 0) -> 1, lift(0, 1) -> 19, day(1) -> 0, doneShare() -> 0.0");
    }

    private static void accountOfDays() {
        promise(35, "`what`: 0 the day", "account(0) -> 0, day(30) -> 0, account(0) -> 30, day(1) -> 0, account(0) -> 31",
            "undo() -> 1, account(0) -> 30");
        promise(35, "1 the signal", "account(1) -> 0, signal(10) -> 0, account(1) -> 10, signal(11) -> BAD",
            "account(1) -> 10");
        promise(35, "2 the bundles", "account(2) -> 0, bundle(4, 0) -> 0, account(2) -> 1, build(0, 4, 0) -> 0",
            "account(2) -> 1, 7 times bundle(1, 0) -> *, account(2) -> 8, bundle(1, 0) -> REFUSED, account(2) -> 8");
        promise(35, "BAD if there is no such what",
            "account(-1) -> BAD, account(19) -> BAD, account(" + MOST + ") -> BAD, account(" + LEAST + ") -> BAD",
            "account(18) -> 0");
        promise(35, "Returns an account", "look, account(0) -> 0, all same");
        promise(35, "Returns the account", "account(9) -> 60, account(10) -> 20");
    }

    private static void accountOfPoles() {
        promise(35, "3 the poles in bundles", "account(3) -> 0, 8 times bundle(30, 0) -> *, account(3) -> 240",
            "build(0, 8, 0) -> 0, account(3) -> 232, clear() -> 0, account(3) -> 0, bundle(4, 0) -> 0",
            "build(0, 4, 0) -> 0, account(3) -> 0");
        promise(35, "4 the storeys", "account(4) -> 0", TEN, "account(4) -> 10, undo() -> 7, account(4) -> 9");
        promise(35, "5 those that are shut", "account(5) -> 0", THREE, "3 times inspector(9) -> *, day(12) -> 0",
            "account(5) -> 0, inspect(2, 2) -> 1, account(5) -> 1, inspect(0, 2) -> 1, account(5) -> 1",
            "inspect(0, 0) -> 1, account(5) -> 2, inspect(1, 1) -> 1, account(5) -> 3, tie(2) -> 12, account(5) -> 2");
        promise(35, "5 those that are shut", "bundle(30, 60) -> 0, build(0, 4, 0) -> 0, inspector(9) -> 0, day(12) -> 0",
            "inspect(0, 0) -> 1, account(5) -> 1, signal(8) -> 0, day(1) -> 1, account(5) -> 0");
        promise(35, "6 those whose ties are old", "account(6) -> 0", THREE, "day(20) -> 0, account(6) -> 0, tie(1) -> 20",
            "day(1) -> 0, account(6) -> 2, tie(2) -> 21, account(6) -> 1, day(20) -> 0, account(6) -> 2, day(1) -> 0",
            "account(6) -> 3");
        promise(35, "6 those whose ties are old", "bundle(30, 60) -> 0, build(0, 4, 0) -> 0, day(21) -> 0",
            "account(6) -> 1, signal(8) -> 0, day(1) -> 1, account(6) -> 0");
        promise(35, "9 the strips", "account(9) -> 60, strips(99) -> 159, strips(99) -> 200, account(9) -> 200",
            "bundle(9, 0) -> 0, build(0, 8, 0) -> 0, account(9) -> 184, day(1) -> 0, tie(0) -> 1, account(9) -> 168");
        promise(35, "9 the strips", "bundle(30, 0) -> 0, 3 times build(0, 8, 0) -> *, build(0, 6, 0) -> 3, account(9) -> 0");
    }

    private static void accountOfCrews() {
        promise(35, "7 the crews", "account(7) -> 0, crew(1) -> 0, account(7) -> 1, 4 times crew(1) -> *",
            "account(7) -> 5, crew(1) -> REFUSED, account(7) -> 5");
        promise(35, "8 those on storeys", "account(8) -> 0", THREE, "5 times crew(1) -> *, account(8) -> 0",
            "up(0, 0) -> 1, up(4, 2) -> 1, account(8) -> 2, up(4, 0) -> 2, account(8) -> 2, up(1, 0) -> 3, up(2, 1) -> 1",
            "up(3, 1) -> 2, account(8) -> 5, down(0) -> 0, account(8) -> 4, signal(3) -> 0, account(8) -> 0");
        promise(35, "10 the turns that the lift has left", "account(10) -> 20", ONE, "lift(0, 9) -> 11",
            "account(10) -> 11, day(1) -> 0, account(10) -> 20");
        promise(35, "11 the loads on storeys", "account(11) -> 0", THREE, "lift(0, 9) -> 11, account(11) -> 9",
            "lift(1, 5) -> 1, account(11) -> 14, crew(1) -> 0, up(0, 1) -> 1, day(1) -> 0, account(11) -> 13",
            "undo() -> *, account(11) -> 14");
        promise(35, "12 the inspectors", "account(12) -> 0, inspector(1) -> 0, account(12) -> 1",
            "2 times inspector(1) -> *, account(12) -> 3, inspector(1) -> REFUSED, account(12) -> 3");
        promise(35, "17 the characters of the input", "account(17) -> 0, append(' ') -> 1, account(17) -> 1",
            "append(31) -> BAD, account(17) -> 1, 59 times append('~') -> *, account(17) -> 60, append('x') -> BAD",
            "account(17) -> 60, script() -> BAD, account(17) -> 0");
        promise(35, "18 the changes that can be undone", "account(18) -> 0, 8 times signal(0) -> 0, account(18) -> 8",
            "signal(0) -> 0, account(18) -> 8, undo() -> 7, account(18) -> 7, save() -> 0, account(18) -> 7",
            "restore() -> 0, account(18) -> 0, signal(1) -> 0, account(18) -> 1, clear() -> 0, account(18) -> 0");
    }

    private static void accountSoFar() {
        promise(35, "13 the fines so far", "account(13) -> 0", THREE, "inspector(9) -> 0, inspector(1) -> 1",
            "inspect(0, 0) -> 0, account(13) -> 0, day(20) -> 0, inspect(0, 0) -> 1, account(13) -> 9",
            "inspect(1, 0) -> 1, account(13) -> 10, tie(0) -> 20, account(13) -> 10, inspect(0, 2) -> 1",
            "account(13) -> 19, undo() -> *, account(13) -> 10");
        promise(35, "14 the work that was done so far", "account(14) -> 0", THREE, "crew(4) -> 0, crew(1) -> 1",
            "up(0, 0) -> 1, up(1, 1) -> 1, lift(0, 3) -> 17, lift(1, 1) -> 15, day(1) -> 0, account(14) -> 5",
            "day(1) -> 0, account(14) -> 9, day(1) -> 0, account(14) -> 10, day(1) -> 0, account(14) -> 10");
        promise(35, "14 the work that was done so far", "bundle(30, 60) -> 0, build(0, 4, 9) -> 0, crew(4) -> 0",
            "up(0, 0) -> 1, lift(0, 1) -> 19, day(1) -> 0, signal(8) -> 0, day(1) -> 1, account(14) -> 4");
        String fallen = "bundle(30, 60) -> 0, bundle(30, 0) -> 1, build(1, 8, 0) -> 0, build(0, 4, 0) -> 1, build(1, 5, 0) -> 2, signal(8) -> 0, day(1) -> 2";
        promise(35, "15 the storeys that fell so far", "account(15) -> 0", fallen, "account(15) -> 2, signal(0) -> 8",
            "build(0, 5, 0) -> 1, account(15) -> 2, signal(8) -> 0, day(1) -> 1, account(15) -> 3, undo() -> *",
            "account(15) -> 2, clear() -> 1, account(15) -> 0");
        promise(35, "16 the poles that were lost so far", "account(16) -> 0", fallen, "account(16) -> 9, signal(0) -> 8",
            "build(0, 5, 0) -> 1, account(16) -> 9, signal(8) -> 0, day(1) -> 1, account(16) -> 14, undo() -> *",
            "account(16) -> 9, clear() -> 1, account(16) -> 0");
    }
}
