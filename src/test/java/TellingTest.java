/** Promises 19 to 35: what is told. */
public final class TellingTest {
    private TellingTest() {
    }

    public static void main(String[] args) {
        promise19();
        promise20();
        promise21();
        promise22();
        promise23();
        promise24();
        promise25();
        promise26();
        promise27();
        promise28();
        promise29();
        promise30And31();
        promise32();
        promise33();
        promise34();
        promise35();
        Notation.end("TellingTest");
    }

    private static void promise19() {
        Notation.run("19 bundleOf",
            "bundleOf(0, true) -> NONE, bundle(7, 8) -> 0, bundleOf(-1, true) -> NONE, bundleOf(1, false) -> NONE",
            "bundleOf(2147483647, false) -> NONE, bundleOf(0, true) -> 8, bundleOf(0, false) -> 7, account(18) -> 1");
    }

    private static void promise20() {
        Notation.run("20 storeyOf",
            "storeyOf(0, 7) -> NONE, bundle(20, 13) -> 0, build(0, 5, 17) -> 0, build(0, 6, 8) -> 1, day(3) -> 0",
            "lift(0, 4) -> 16, crew(2) -> 0, crew(2) -> 1, crew(2) -> 2, up(2, 0) -> 1, up(0, 0) -> 2, up(1, 1) -> 1",
            "storeyOf(0, -1) -> BAD, storeyOf(0, 7) -> BAD, storeyOf(2, 0) -> NONE, storeyOf(-1, 7) -> NONE",
            "storeyOf(0, 0) -> 5, storeyOf(0, 1) -> 13, storeyOf(0, 2) -> 3, storeyOf(0, 3) -> 17, storeyOf(0, 4) -> 4",
            "storeyOf(0, 5) -> 0, storeyOf(0, 6) -> 5, storeyOf(1, 6) -> 2, day(8) -> 0, inspector(9) -> 0",
            "inspect(0, 0) -> 0, day(1) -> 0, inspect(0, 0) -> 1, storeyOf(0, 5) -> 1, storeyOf(0, 6) -> 0",
            "storeyOf(1, 5) -> 0, storeyOf(1, 6) -> 2");
        Notation.run("20 storeyOf: five crews",
            "bundle(20, 13) -> 0, build(0, 5, 17) -> 0, 5 times crew(1) -> *, up(4, 0) -> 1, storeyOf(0, 6) -> 16");
    }

    private static void promise21() {
        Notation.run("21 strength",
            "strength(0, false) -> NONE, strength(0, true) -> NONE, strips(99) -> *, bundle(30, 5) -> 0, bundle(30, 6) -> 1",
            "build(0, 8, 0) -> 0, build(1, 8, 0) -> 1, build(0, 4, 0) -> 2, build(1, 7, 0) -> 3, build(0, 4, 0) -> 4",
            "strength(-1, true) -> NONE, strength(5, false) -> NONE, strength(0, false) -> 20, strength(1, false) -> 19",
            "strength(2, false) -> 15, strength(3, false) -> 17, strength(4, false) -> 14, strength(4, true) -> 14",
            "strength(3, true) -> 17, day(4) -> 0, strength(0, true) -> 20, day(1) -> 0, strength(0, true) -> 19",
            "strength(0, false) -> 19, day(2) -> 0, strength(0, false) -> 18, strength(0, true) -> 18, day(3) -> 0",
            "strength(0, false) -> 17, strength(1, true) -> 17, strength(1, false) -> 17");
        Notation.run("21 strength: at least 0",
            "bundle(30, 60) -> 0, build(0, 4, 0) -> 0, day(29) -> 0, strength(0, false) -> 1, strength(0, true) -> 1",
            "day(1) -> 0, strength(0, false) -> 0, strength(0, true) -> 0, day(30) -> 0, day(30) -> 0",
            "strength(0, false) -> 0, strength(0, true) -> 0, meanStrength() -> 0.0");
        BambooTower tower = Notation.run("21 strength: both ways", "strips(99) -> *, bundle(30, 50) -> 0, bundle(30, 0) -> 1",
            "5 times build(0, 4, 1) -> *, 5 times build(1, 6, 1) -> *");
        for (int days = 0; days < 30; days++) {
            for (int storey = 0; storey < 10; storey++) {
                Notation.due("strength(" + storey + ") on day " + days, tower.strength(storey, true), tower.strength(storey, false));
            }
            tower.day(1 + days % 4);
        }
    }

    private static void promise22() {
        Notation.run("22 weakest",
            "weakest() -> NOTHING, bundle(30, 0) -> 0, build(0, 6, 0) -> 0, weakest() -> 0, build(0, 5, 0) -> 1",
            "weakest() -> 1, build(0, 6, 0) -> 2, weakest() -> 1, build(0, 5, 0) -> 3, weakest() -> 3, build(0, 4, 0) -> 4",
            "weakest() -> 4, day(10) -> 0, tie(4) -> 10, strength(1, false) -> 15, strength(3, false) -> 14",
            "strength(4, false) -> 14, weakest() -> 3, undo() -> 7, weakest() -> 4");
        Notation.run("22 weakest: of several the lowest one",
            "bundle(30, 0) -> 0, 3 times build(0, 4, 0) -> *, weakest() -> 2, day(5) -> 0, tie(2) -> 5, weakest() -> 0");
    }

    private static void promise23() {
        Notation.run("23 oldest",
            "oldest(0) -> NONE, bundle(30, 0) -> 0, build(0, 4, 0) -> 0, build(0, 4, 0) -> 1, day(2) -> 0",
            "build(0, 4, 0) -> 2, oldest(-1) -> NONE, oldest(3) -> NONE, oldest(2147483647) -> NONE, oldest(0) -> 1",
            "oldest(1) -> 0, oldest(2) -> 2, day(1) -> 0, tie(0) -> 3, build(0, 4, 0) -> 3, oldest(0) -> 1",
            "oldest(1) -> 2, oldest(2) -> 3, oldest(3) -> 0, oldest(4) -> NONE");
    }

    private static void promise24() {
        Notation.run("24 crewOf",
            "crewOf(0, 0) -> NONE, crewOf(0, 4) -> NONE, crew(3) -> 0, crewOf(-1, 0) -> NONE, crewOf(1, 4) -> NONE",
            "crewOf(0, -1) -> BAD, crewOf(0, 4) -> BAD, crewOf(0, 0) -> 3, crewOf(0, 1) -> NOTHING, crewOf(0, 2) -> 0",
            "crewOf(0, 3) -> 0, bundle(12, 0) -> 0, build(0, 4, 5) -> 0, build(0, 4, 3) -> 1, up(0, 1) -> 1",
            "crewOf(0, 1) -> 1, crewOf(0, 2) -> 0, lift(1, 2) -> 16, crewOf(0, 2) -> 1, day(1) -> 0, crewOf(0, 3) -> 3",
            "crewOf(0, 2) -> 0, storeyOf(1, 4) -> 1, up(0, 0) -> 1, crewOf(0, 2) -> 0, lift(0, 1) -> 19",
            "crewOf(0, 2) -> 1, day(1) -> 0, crewOf(0, 3) -> 6, storeyOf(0, 3) -> 2");
        Notation.run("24 crewOf: crews with lower numbers leave no load",
            "bundle(12, 0) -> 0, build(0, 4, 40) -> 0, 4 times crew(1) -> *, up(3, 0) -> 1, up(1, 0) -> 2, up(0, 0) -> 3",
            "lift(0, 2) -> 18, crewOf(0, 2) -> 1, crewOf(1, 2) -> 1, crewOf(2, 2) -> 0, crewOf(3, 2) -> 0",
            "storeyOf(0, 4) -> 2, down(1) -> 0, crewOf(3, 2) -> 1, crewOf(1, 2) -> 0");
        Notation.run("24 crewOf: crews with lower numbers leave no work",
            "bundle(12, 0) -> 0, build(0, 4, 5) -> 0, crew(3) -> 0, crew(2) -> 1, crew(1) -> 2, 3 times up(2, 0) -> *",
            "up(1, 0) -> 2, up(0, 0) -> 3, lift(0, 9) -> 11, crewOf(0, 2) -> 1, crewOf(1, 2) -> 1, crewOf(2, 2) -> 0",
            "storeyOf(0, 3) -> 5, down(0) -> 0, crewOf(2, 2) -> 1, day(1) -> 0, account(14) -> 3");
        Notation.run("24 crewOf: an old tie below",
            "bundle(12, 0) -> 0, build(0, 4, 0) -> 0, day(9) -> 0, build(0, 4, 40) -> 1, crew(1) -> 0, up(0, 1) -> 1",
            "day(11) -> 0, lift(1, 3) -> 14, crewOf(0, 2) -> 1, day(1) -> 0, crewOf(0, 2) -> 0, tie(0) -> 21",
            "crewOf(0, 2) -> 1");
    }

    private static void promise25() {
        Notation.run("25 inspectorOf",
            "inspectorOf(0, 0) -> NONE, inspector(9) -> 0, inspector(4) -> 1, inspectorOf(-1, 0) -> NONE",
            "inspectorOf(2, 3) -> NONE, inspectorOf(0, 3) -> BAD, inspectorOf(0, -1) -> BAD, bundle(30, 0) -> 0",
            "3 times build(0, 4, 0) -> *, day(18) -> 0, inspect(0, 0) -> 1, inspect(0, 2) -> 1, inspect(1, 1) -> 1",
            "inspect(1, 0) -> 1, inspectorOf(0, 0) -> 9, inspectorOf(0, 1) -> 2, inspectorOf(0, 2) -> 2",
            "inspectorOf(1, 0) -> 4, inspectorOf(1, 1) -> 1, inspectorOf(1, 2) -> 2, account(13) -> 26, tie(0) -> 18",
            "inspectorOf(0, 1) -> 1, inspectorOf(0, 2) -> 2, account(5) -> 2");
    }

    private static void promise26() {
        Notation.run("26 highest",
            "highest() -> NOTHING, bundle(30, 0) -> 0, build(0, 4, 0) -> 0, highest() -> 0, build(0, 4, 0) -> 1",
            "build(0, 4, 0) -> 2, highest() -> 2, signal(2) -> 0, highest() -> 2, signal(3) -> 2, highest() -> NOTHING",
            "signal(0) -> 3, inspector(9) -> 0, day(12) -> 0, inspect(0, 2) -> 1, highest() -> 1, inspect(0, 1) -> 1",
            "highest() -> 0, tie(2) -> 12, highest() -> 2, inspect(0, 0) -> 1, highest() -> 2, day(8) -> 0",
            "highest() -> 2, day(1) -> 0, highest() -> NOTHING, strips(99) -> *, tie(0) -> 21, highest() -> 0",
            "tie(1) -> 21, highest() -> 2");
        Notation.run("26 highest: all are shut",
            "bundle(30, 0) -> 0, build(0, 4, 0) -> 0, inspector(9) -> 0, day(12) -> 0, inspect(0, 0) -> 1",
            "highest() -> NOTHING");
    }

    private static void promise27() {
        Notation.run("27 wouldFall",
            "wouldFall(7) -> BAD, wouldFall(11) -> BAD, wouldFall(0) -> BAD, wouldFall(8) -> NOTHING, bundle(30, 60) -> 0",
            "bundle(30, 0) -> 1, build(1, 4, 0) -> 0, build(0, 7, 0) -> 1, build(0, 5, 0) -> 2, strength(1, true) -> 9",
            "strength(2, true) -> 6, wouldFall(8) -> 2, wouldFall(9) -> 2, wouldFall(10) -> 1, signal(10) -> 0",
            "wouldFall(8) -> 2, wouldFall(9) -> 2, signal(3) -> 10, wouldFall(10) -> 1, account(4) -> 3");
    }

    private static void promise28() {
        Notation.run("28 oldIn",
            "oldIn(0) -> NONE, bundle(30, 0) -> 0, build(0, 8, 0) -> 0, oldIn(-1) -> NONE, oldIn(1) -> NONE",
            "oldIn(0) -> 21, day(2) -> 0, build(0, 8, 0) -> 1, oldIn(0) -> 19, oldIn(1) -> 21, signal(7) -> 0",
            "oldIn(0) -> 19, signal(8) -> 7, oldIn(0) -> 5, oldIn(1) -> 6, signal(0) -> 8, day(18) -> 0, oldIn(0) -> 1",
            "account(0) -> 20, day(1) -> 0, oldIn(0) -> 0, oldIn(1) -> 2, signal(8) -> 0, day(1) -> 0, oldIn(0) -> 0",
            "account(18) -> 8, storeyOf(0, 2) -> 25");
        Notation.run("28 oldIn: it falls on the day on which it would be, or before",
            "bundle(30, 60) -> 0, build(0, 8, 0) -> 0, strength(0, true) -> 10, signal(9) -> 0, oldIn(0) -> NOTHING",
            "signal(8) -> 9, oldIn(0) -> NOTHING, signal(0) -> 8, day(4) -> 0, oldIn(0) -> 17, strength(0, true) -> 10",
            "signal(10) -> 0, oldIn(0) -> NOTHING, signal(7) -> 10, oldIn(0) -> 17");
        Notation.run("28 oldIn: it falls just on that day",
            "bundle(30, 30) -> 0, build(0, 8, 0) -> 0, day(17) -> 0, strength(0, true) -> 12, signal(10) -> 0",
            "oldIn(0) -> 1, signal(0) -> 10, undo() -> 4, undo() -> 3, undo() -> 2, bundle(8, 42) -> 1",
            "build(1, 6, 0) -> 1, day(17) -> 0, strength(1, true) -> 8, signal(8) -> 0, oldIn(1) -> NOTHING",
            "oldIn(0) -> 1");
        Notation.run("28 oldIn: as a lower one falls",
            "bundle(30, 0) -> 0, bundle(30, 60) -> 1, build(0, 8, 0) -> 0, build(1, 4, 0) -> 1, build(0, 8, 0) -> 2",
            "signal(8) -> 0, oldIn(0) -> 6, oldIn(1) -> NOTHING, oldIn(2) -> NOTHING, account(4) -> 3");
    }

    private static void promise29() {
        Notation.run("29 doneIn",
            "doneIn(0) -> NONE, bundle(30, 0) -> 0, build(0, 4, 10) -> 0, build(0, 4, 0) -> 1, doneIn(-1) -> NONE",
            "doneIn(2) -> NONE, doneIn(1) -> 0, doneIn(0) -> NOTHING, crew(3) -> 0, up(0, 0) -> 1, doneIn(0) -> NOTHING",
            "lift(0, 3) -> 17, doneIn(0) -> NOTHING, lift(0, 1) -> 16, doneIn(0) -> 4, crew(2) -> 1, up(1, 0) -> 2",
            "doneIn(0) -> 2, lift(0, 1) -> 15, doneIn(0) -> 2",
            "undo() -> *, undo() -> 6, doneIn(0) -> 4, storeyOf(0, 3) -> 10, account(0) -> 0, day(4) -> 0",
            "doneIn(0) -> 0, signal(3) -> 0, doneIn(0) -> 0");
        Notation.run("29 doneIn: two crews",
            "bundle(30, 0) -> 0, build(0, 4, 10) -> 0, crew(2) -> 0, crew(3) -> 1, up(0, 0) -> 1, up(1, 0) -> 2",
            "lift(0, 9) -> 11, doneIn(0) -> 2, storeyOf(0, 4) -> 9, signal(3) -> 0, doneIn(0) -> NOTHING");
        Notation.run("29 doneIn: an old tie stops it",
            "bundle(30, 0) -> 0, build(0, 4, 4) -> 0, day(17) -> 0, crew(1) -> 0, up(0, 0) -> 1, lift(0, 9) -> 11",
            "doneIn(0) -> 4, day(1) -> 0, tie(0) -> 18, undo() -> *, undo() -> *, doneIn(0) -> 4, undo() -> *",
            "day(1) -> 0, lift(0, 9) -> 11, doneIn(0) -> NOTHING");
        Notation.run("29 doneIn: it falls with its work",
            "bundle(30, 60) -> 0, build(0, 4, 4) -> 0, signal(8) -> 0, doneIn(0) -> NOTHING, account(4) -> 1",
            "build(0, 4, 4) -> REFUSED");
    }

    private static void promise30And31() {
        BambooTower tower = Notation.run("30 describe",
            "written(0) -> NONE, describe() -> 4, written(-1) -> NONE, written(4) -> NONE, written(3) -> 101",
            "written(2147483647) -> NONE, account(18) -> 0");
        Notation.due("bare", Notation.writtenLine(tower), "bare");
        Notation.go(tower, "30 describe", "bundle(30, 0) -> 0, build(0, 8, 0) -> 0, day(22) -> 0, build(0, 6, 12) -> 1",
            "day(3) -> 0, written(3) -> 101, inspector(3) -> 0, inspect(0, 0) -> 1, describe() -> 16");
        Notation.due("one is shut", Notation.writtenLine(tower), "1:6p3w12 0:8p25#");
        Notation.go(tower, "30 describe", "tie(0) -> 25, crew(1) -> 0, crew(1) -> 1, crew(1) -> 2, up(2, 1) -> 1",
            "up(0, 0) -> 1, up(1, 1) -> 2, describe() -> 17");
        Notation.due("crews", Notation.writtenLine(tower), "1:6p3**w12 0:8p0*");
        Notation.go(tower, "30 describe", "describe() -> 17, clear() -> 25, written(0) -> 49, describe() -> 4, written(4) -> NONE");
        tower = Notation.run("30 describe: one hour, ten hours, ten days", "bundle(30, 0) -> 0, build(0, 4, 1) -> 0",
            "day(10) -> 0, build(0, 4, 10) -> 1, describe() -> 17");
        Notation.due("one hour", Notation.writtenLine(tower), "1:4p0w10 0:4p10w1");
        tower = Notation.run("30 describe: all ten", "strips(99) -> *, bundle(30, 0) -> 0, bundle(30, 0) -> 1",
            "6 times build(0, 4, 40) -> *, 4 times build(1, 5, 9) -> *, 3 times day(30) -> *, 5 times crew(1) -> *",
            "describe() -> 95");
        Notation.due("all ten", Notation.writtenLine(tower), "9:5p90w9 8:5p90w9 7:5p90w9 6:5p90w9"
            + " 5:4p90w40 4:4p90w40 3:4p90w40 2:4p90w40 1:4p90w40 0:4p90w40");
    }

    private static void promise32() {
        Notation.run("32 work",
            "bundle(30, 60) -> 0, build(0, 8, 11) -> 0, build(0, 4, 7) -> 1, work(false) -> 18, work(true) -> 18",
            "crew(4) -> 0, up(0, 0) -> 1, lift(0, 2) -> 18, day(1) -> 0, work(false) -> 14, work(true) -> 14",
            "signal(8) -> 0, day(1) -> 1, work(false) -> 7, work(true) -> 7, day(30) -> 1, work(false) -> 0",
            "work(true) -> 0, account(14) -> 4");
    }

    private static void promise33() {
        Notation.run("33 meanStrength",
            "meanStrength() -> 0.0, bundle(30, 0) -> 0, build(0, 4, 0) -> 0, meanStrength() -> 16.0, build(0, 5, 0) -> 1",
            "meanStrength() -> 16.5, day(5) -> 0, meanStrength() -> 15.5");
        BambooTower tower = Notation.run("33 meanStrength: thirds", "bundle(30, 0) -> 0, build(0, 4, 0) -> 0",
            "build(0, 5, 0) -> 1, build(0, 6, 0) -> 2");
        Notation.due("meanStrength()", tower.meanStrength(), 50.0f / 3.0f);
    }

    private static void promise34() {
        Notation.run("34 doneShare",
            "doneShare() -> 0.0, bundle(30, 60) -> 0, build(0, 4, 0) -> 0, doneShare() -> 0.0, build(0, 4, 8) -> 1",
            "doneShare() -> 0.0, crew(1) -> 0, up(0, 1) -> 1, lift(1, 2) -> 16, day(1) -> 0, doneShare() -> 0.125",
            "signal(8) -> 0, day(1) -> 2, doneShare() -> 0.125, signal(0) -> 8, build(0, 4, 8) -> 0",
            "doneShare() -> 0.0625, undo() -> *, doneShare() -> 0.125");
        BambooTower tower = Notation.run("34 doneShare: thirds",
            "bundle(30, 60) -> 0, build(0, 4, 3) -> 0, crew(1) -> 0, up(0, 0) -> 1, lift(0, 1) -> 19, day(1) -> 0");
        Notation.due("doneShare()", tower.doneShare(), 1.0 / 3.0);
    }

    private static void promise35() {
        Notation.run("35 account",
            "account(-1) -> BAD, account(19) -> BAD, account(2147483647) -> BAD, bundle(30, 60) -> 0, bundle(9, 0) -> 1",
            "build(0, 8, 20) -> 0, build(0, 8, 5) -> 1, build(1, 5, 3) -> 2, lift(0, 2) -> 18, lift(2, 1) -> 15",
            "crew(2) -> 0, crew(1) -> 1, crew(1) -> 2, up(0, 0) -> 1, up(1, 2) -> 1, inspector(9) -> 0, day(12) -> 0",
            "inspect(0, 1) -> 1, signal(2) -> 0, type \"ab\" -> 2",
            "account(0) -> 12, account(1) -> 2, account(2) -> 2, account(3) -> 18, account(4) -> 3, account(5) -> 1",
            "account(6) -> 0, account(7) -> 3, account(8) -> 2, account(9) -> 18, account(10) -> 20, account(11) -> 0",
            "account(12) -> 1, account(13) -> 9, account(14) -> 5, account(15) -> 0, account(16) -> 0, account(17) -> 2",
            "account(18) -> 8, lift(1, 3) -> 14, account(10) -> 14, account(11) -> 3, tie(2) -> 12, day(9) -> 0",
            "account(6) -> 2, account(9) -> 8, signal(9) -> 2, day(1) -> 3, account(15) -> 3, account(16) -> 21",
            "account(8) -> 0, account(11) -> 0, account(5) -> 0, account(6) -> 0, account(13) -> 9, account(14) -> 5");
    }
}
