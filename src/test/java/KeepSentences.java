/** Promises 36 to 38, sentence by sentence: undoing, saving and restoring. */
final class KeepSentences {
    /** A scaffold with something in most of its numbers, and more changes than can be undone. */
    private static final String MUCH = "bundle(30, 60) -> 0, bundle(9, 3) -> 1, build(0, 8, 9) -> 0, build(0, 4, 8) -> 1, crew(4) -> 0,"
        + " crew(2) -> 1, up(0, 0) -> 1, lift(0, 1) -> 19, lift(1, 1) -> 17, inspector(9) -> 0, inspector(1) -> 1, day(12) -> 0,"
        + " inspect(0, 1) -> 1, lift(0, 3) -> 17, signal(1) -> 0";

    private KeepSentences() {
    }

    static void hold() {
        undo();
        undoOfEachChange();
        undoOfScripts();
        save();
        restore();
    }

    private static void promise(int number, String words, String... calls) {
        Sentence.holds("Promise " + number, words, calls);
    }

    private static void undo() {
        String words = "Returns the number of changes that can still be undone";
        promise(36, words, "3 times strips(1) -> *, undo() -> 2, undo() -> 1, undo() -> 0, undo() -> NOTHING",
            "account(9) -> 60");
        promise(36, words, "8 times strips(1) -> *, undo() -> 7, undo() -> 6, undo() -> 5, undo() -> 4, undo() -> 3",
            "undo() -> 2, undo() -> 1, undo() -> 0, undo() -> NOTHING, account(9) -> 60");
        promise(36, words, "8 times strips(1) -> *, 9 times signal(11) -> BAD, undo() -> 7, 7 times undo() -> *",
            "account(9) -> 60");
        promise(36, words, "9 times strips(1) -> *, undo() -> 7, strips(9) -> 77, undo() -> 7, undo() -> 6",
            "account(9) -> 67");
        promise(36, "NOTHING if there is none", "look, undo() -> NOTHING, all same, strips(1) -> 61, undo() -> 0, look",
            "undo() -> NOTHING, all same");
        promise(36, "NOTHING if there is none", "9 times strips(1) -> *, 8 times undo() -> *, look, undo() -> NOTHING",
            "undo() -> NOTHING, all same, account(9) -> 61, strips(1) -> 62, undo() -> 0, undo() -> NOTHING");
        promise(36, "NOTHING if there is none", "strips(1) -> 61, clear() -> 0, undo() -> NOTHING, strips(1) -> 61",
            "save() -> 0, restore() -> 0, undo() -> NOTHING, account(9) -> 61");
    }

    private static void undoOfEachChange() {
        String words = "`int undo()`: Undoes the latest change.";
        undone(words, "bundle(9, 60) -> 2");
        undone(words, "strips(99) -> 135");
        undone(words, "build(1, 8, 40) -> 2");
        undone(words, "tie(1) -> 12");
        undone(words, "crew(3) -> 2");
        undone(words, "up(1, 0) -> 2");
        undone(words, "down(0) -> 0");
        undone(words, "lift(0, 2) -> 15");
        undone(words, "signal(0) -> 1");
        undone(words, "signal(10) -> 1");
        undone(words, "inspector(5) -> 2");
        undone(words, "inspect(0, 0) -> 1");
        undone(words, "inspect(1, 0) -> 0");
        undone(words, "inspect(0, 1) -> 1");
        undone(words, "day(1) -> 0");
        undone(words, "day(30) -> 0");
        undone(words, "type \"g1\" -> 2, script() -> 1");
        promise(36, words, MUCH, "undo() -> *, signal(8) -> 0, look, day(30) -> 2, account(4) -> 0, undo() -> 7",
            "account(18) -> 7, signal(2) -> 8, undo() -> 7, day(1) -> 2, undo() -> 7, storeyOf(1, 5) -> 1",
            "storeyOf(1, 3) -> 8, storeyOf(0, 4) -> 3, account(15) -> 0");
    }

    /** There are 7 others that can be undone before the change, and so again when it is undone. */
    private static void undone(String words, String change) {
        promise(36, words, MUCH, "strips(1) -> *, undo() -> 7, look, " + change + ", undo() -> 7, same");
    }

    private static void undoOfScripts() {
        promise(36, "`int undo()`: Undoes the latest change.", MUCH, "strips(1) -> *, undo() -> 7, look",
            "type \"d0;u1@0;n9;g9;n1;g0;b1*4:3;l0*2;i1@0\" -> 36, script() -> 9, account(15) -> 2, undo() -> 7, same");
        promise(36, "`int undo()`: Undoes the latest change.", "strips(1) -> 61, type \"g1;g2\" -> 5, script() -> 2",
            "strips(1) -> 62, undo() -> 2, account(1) -> 2, undo() -> 1, account(1) -> 0, undo() -> 0, account(9) -> 60");
    }

    private static void save() {
        String words = "Saves all that changes can change, in place of what was saved before.";
        promise(37, words, MUCH, "save() -> 12, restore() -> 12, look, day(30) -> 0, down(0) -> 0, signal(8) -> 1",
            "day(1) -> 2, bundle(4, 4) -> 2, strips(9) -> *, crew(1) -> 2, inspector(3) -> 2, restore() -> 12, same");
        promise(37, words, "strips(1) -> 61, save() -> 0, strips(2) -> 63, save() -> 0, strips(3) -> 66, restore() -> 0",
            "account(9) -> 63, save() -> 0, strips(1) -> 64, restore() -> 0, account(9) -> 63");
        promise(37, words, "strips(1) -> 61, look, save() -> 0, all same, account(18) -> 1, undo() -> 0",
            "account(9) -> 60, restore() -> 0, account(9) -> 61");
        promise(37, words, "save() -> 0, signal(5) -> 0, restore() -> 0, account(1) -> 0, account(9) -> 60");
        promise(37, "Returns the day", "save() -> 0, day(30) -> 0, save() -> 30, day(7) -> 0, save() -> 37, undo() -> 1",
            "save() -> 30, clear() -> 30, save() -> 0");
    }

    private static void restore() {
        promise(38, "`int restore()`: Restores what was saved, which stays saved.", "strips(1) -> 61, save() -> 0",
            "strips(2) -> 63, restore() -> 0, account(9) -> 61, strips(4) -> 65, restore() -> 0, account(9) -> 61",
            "restore() -> 0, account(9) -> 61, clear() -> 0, restore() -> 0, account(9) -> 61");
        promise(38, "Restores what was saved", MUCH, "save() -> 12, restore() -> 12, look, clear() -> 12",
            "bundle(20, 9) -> 0, build(0, 8, 40) -> 0, crew(1) -> 0, inspector(2) -> 0, up(0, 0) -> 1, lift(0, 9) -> 11",
            "restore() -> 12, same, account(13) -> 9, account(14) -> 4, inspectorOf(0, 1) -> 1");
        promise(38, "Nothing can be undone then.", "9 times strips(1) -> *, save() -> 0, restore() -> 0",
            "account(18) -> 0, undo() -> NOTHING, account(9) -> 69, strips(1) -> 70, account(18) -> 1, undo() -> 0",
            "account(9) -> 69, undo() -> NOTHING");
        promise(38, "Returns the day", "day(3) -> 0, save() -> 3, day(30) -> 0, restore() -> 3, account(0) -> 3",
            "clear() -> 3, restore() -> 3");
        promise(38, "Returns the day", "save() -> 0, day(30) -> 0, restore() -> 0, account(0) -> 0");
        promise(38, "NOTHING if nothing was saved", "restore() -> NOTHING, strips(1) -> 61, look, restore() -> NOTHING",
            "all same, undo() -> 0, clear() -> 0, restore() -> NOTHING, save() -> 0, restore() -> 0");
    }
}
