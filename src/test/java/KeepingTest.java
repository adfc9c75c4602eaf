/** Promises 36 to 38: undoing, saving and restoring. */
public final class KeepingTest {
    private KeepingTest() {
    }

    public static void main(String[] args) {
        promise36();
        promise36EachChange();
        promise37And38();
        Notation.end("KeepingTest");
    }

    private static void promise36() {
        Notation.run("36 undo: the latest 8",
            "undo() -> NOTHING, 11 times strips(1) -> *, account(18) -> 8, undo() -> 7, account(9) -> 70, 6 times undo() -> *",
            "account(18) -> 1, undo() -> 0, account(9) -> 63, undo() -> NOTHING, account(9) -> 63, strips(2) -> 65",
            "undo() -> 0, account(9) -> 63, undo() -> NOTHING");
        Notation.run("36 undo: after changes again",
            "5 times strips(1) -> *, undo() -> 4, undo() -> 3, 7 times strips(10) -> *, account(18) -> 8",
            "account(9) -> 133, 8 times undo() -> *, account(9) -> 62, undo() -> NOTHING");
        Notation.run("36 undo: what is asked or refused is no change",
            "bundle(3, 3) -> 0, build(0, 4, 0) -> REFUSED, up(0, 0) -> NONE, crew(7) -> BAD, describe() -> 4, save() -> 0",
            "append('x') -> 1, script() -> BAD, oldIn(0) -> NONE, account(18) -> 1, undo() -> 0, account(2) -> 0",
            "written(0) -> 98, fault() -> 0, reason(0, false) -> 2");
    }

    private static void promise36EachChange() {
        Notation.run("36 undo: each change",
            "strips(5) -> 65, undo() -> 0, account(9) -> 60, bundle(20, 5) -> 0, undo() -> 0, account(2) -> 0",
            "bundle(20, 5) -> 0, build(0, 4, 6) -> 0, undo() -> 1, account(4) -> 0, account(9) -> 60, account(3) -> 20",
            "work(true) -> 0, build(0, 4, 6) -> 0, crew(2) -> 0, undo() -> 2, account(7) -> 0, crew(3) -> 0",
            "up(0, 0) -> 1, undo() -> 3, crewOf(0, 1) -> NOTHING, up(0, 0) -> 1, down(0) -> 0, undo() -> 4",
            "crewOf(0, 1) -> 0, lift(0, 4) -> 16, undo() -> 4, storeyOf(0, 4) -> 0, account(10) -> 20, lift(0, 1) -> 19",
            "signal(5) -> 0, undo() -> 5, account(1) -> 0, crewOf(0, 1) -> 0, inspector(9) -> 0, undo() -> 5",
            "account(12) -> 0, inspector(9) -> 0, day(16) -> 0, undo() -> 6, account(0) -> 0, storeyOf(0, 3) -> 6",
            "storeyOf(0, 4) -> 1, storeyOf(0, 2) -> 0, storeyOf(0, 1) -> 5, bundleOf(0, true) -> 5, account(14) -> 0",
            "crewOf(0, 3) -> 0, account(10) -> 19, day(16) -> 0, inspect(0, 0) -> 1, undo() -> 7, storeyOf(0, 5) -> 0",
            "crewOf(0, 1) -> 0, account(13) -> 0, inspectorOf(0, 2) -> 0, tie(0) -> 16, undo() -> 7",
            "storeyOf(0, 2) -> 16, account(9) -> 52, type \"g8;n30\" -> 6, script() -> 2, account(4) -> 0, undo() -> 7",
            "account(4) -> 1, account(15) -> 0, account(16) -> 0, work(true) -> 3, crewOf(0, 1) -> 0");
        Notation.run("36 undo: each is undone to what stood just before",
            "strips(1) -> 61, inspector(4) -> 0, strips(1) -> 62, inspector(5) -> 1, undo() -> 3, account(9) -> 62",
            "account(12) -> 1, crew(1) -> 0, strips(1) -> 63, crew(2) -> 1, undo() -> 5, account(9) -> 63",
            "account(7) -> 1, signal(1) -> 0, strips(1) -> 64, signal(2) -> 1, undo() -> 7, account(9) -> 64",
            "account(1) -> 1, day(1) -> 0, strips(1) -> 65, day(1) -> 0, undo() -> 7, account(0) -> 1, account(9) -> 65",
            "bundle(9, 1) -> 0, strips(1) -> 66, bundle(9, 2) -> 1, undo() -> 7, account(9) -> 66, account(2) -> 1");
        Notation.run("36 undo: a change by which nothing is different",
            "signal(0) -> 0, account(18) -> 1, undo() -> 0, account(1) -> 0");
    }

    private static void promise37And38() {
        Notation.run("37 save, 38 restore",
            "restore() -> NOTHING, bundle(20, 5) -> 0, restore() -> NOTHING, account(18) -> 1, build(0, 4, 9) -> 0",
            "crew(3) -> 0, up(0, 0) -> 1, lift(0, 5) -> 15, inspector(8) -> 0, day(13) -> 0, inspect(0, 0) -> 1",
            "save() -> 13, account(18) -> 8, tie(0) -> 13, up(0, 0) -> 1, strips(4) -> 48, day(30) -> 0, save() -> 43",
            "undo() -> 7, account(0) -> 13, restore() -> 43, account(0) -> 43, account(18) -> 0, undo() -> NOTHING",
            "account(9) -> 48, crewOf(0, 1) -> 0, crewOf(0, 3) -> 9, account(13) -> 8, inspectorOf(0, 2) -> 1",
            "storeyOf(0, 2) -> 30, storeyOf(0, 1) -> 11, signal(10) -> 0, day(1) -> 1, clear() -> 44, restore() -> 43",
            "account(4) -> 1, account(1) -> 0, account(14) -> 9, doneShare() -> 1.0, account(15) -> 0, restore() -> 43");
        Notation.run("37 save: a shut storey, the turns and the signal",
            "bundle(20, 5) -> 0, build(0, 4, 9) -> 0, inspector(8) -> 0, day(13) -> 0, inspect(0, 0) -> 1, lift(0, 5) -> 15",
            "signal(2) -> 0, save() -> 13, clear() -> 13, restore() -> 13, account(10) -> 15, account(1) -> 2",
            "account(5) -> 1, inspectorOf(0, 1) -> 1, account(11) -> 5, crew(1) -> 0, up(0, 0) -> REFUSED",
            "reason(1, true) -> 0, account(18) -> 1");
        Notation.run("38 restore: all numbers of crews, inspectors and bundles",
            "bundle(8, 7) -> 0, crew(3) -> 0, inspector(2) -> 0, inspector(7) -> 1, save() -> 0, clear() -> 0",
            "bundle(9, 6) -> 0, crew(1) -> 0, inspector(4) -> 0, inspector(5) -> 1, restore() -> 0",
            "bundleOf(0, false) -> 8, bundleOf(0, true) -> 7, crewOf(0, 0) -> 3, inspectorOf(0, 0) -> 2",
            "inspectorOf(1, 0) -> 7, account(12) -> 2");
        Notation.run("38 restore: the input, the faults, the reasons and the line stay",
            "save() -> 0, type \"q\" -> 1, script() -> BAD, crew(1) -> 0, down(0) -> REFUSED, describe() -> 4",
            "type \"g5\" -> 2, restore() -> 0, account(17) -> 2, fault() -> 0, reason(0, false) -> 11, written(0) -> 98",
            "account(7) -> 0, script() -> 1, account(1) -> 5, restore() -> 0, account(1) -> 0, undo() -> NOTHING");
    }
}
