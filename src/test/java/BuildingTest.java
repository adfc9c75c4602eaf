/** Promises 1 to 8, 12 and 13: what is brought, built, tied, added and set. */
public final class BuildingTest {
    private BuildingTest() {
    }

    public static void main(String[] args) {
        promise1();
        promise2();
        promise3();
        promise4();
        promise5();
        promise6();
        promise7();
        promise8();
        promise12();
        promise13();
        Notation.end("BuildingTest");
    }

    private static void promise1() {
        Notation.run("1 a new object",
            "account(0) -> 0, account(1) -> 0, account(2) -> 0, account(3) -> 0, account(4) -> 0, account(5) -> 0",
            "account(6) -> 0, account(7) -> 0, account(8) -> 0, account(9) -> 60, account(10) -> 20",
            "account(11) -> 0, account(12) -> 0, account(13) -> 0, account(14) -> 0, account(15) -> 0",
            "account(16) -> 0, account(17) -> 0, account(18) -> 0, bundleOf(0, false) -> NONE",
            "storeyOf(0, 0) -> NONE, crewOf(0, 0) -> NONE, inspectorOf(0, 0) -> NONE, fault() -> NOTHING",
            "reason(0, false) -> NOTHING, written(0) -> NONE, undo() -> NOTHING, restore() -> NOTHING",
            "weakest() -> NOTHING, highest() -> NOTHING, oldest(0) -> NONE, work(false) -> 0, work(true) -> 0",
            "meanStrength() -> 0.0, doneShare() -> 0.0");
    }

    private static void promise2() {
        Notation.run("2 clear",
            "clear() -> 0, bundle(9, 3) -> 0, build(0, 4, 7) -> 0, crew(1) -> 0, inspector(2) -> 0, day(6) -> 0",
            "lift(0, 3) -> 17, signal(7) -> 0, save() -> 6, type \"x\" -> 1, script() -> BAD, type \"t0\" -> 2",
            "up(0, 0) -> REFUSED, describe() -> 7, clear() -> 6",
            "account(0) -> 0, account(1) -> 0, account(2) -> 0, account(3) -> 0, account(4) -> 0, account(7) -> 0",
            "account(9) -> 60, account(10) -> 20, account(11) -> 0, account(12) -> 0, account(17) -> 2",
            "account(18) -> 0, undo() -> NOTHING, work(true) -> 0, doneShare() -> 0.0, fault() -> 0",
            "reason(0, false) -> 4, reason(0, true) -> 7, written(0) -> 48, written(6) -> 55, bundleOf(0, true) -> NONE",
            "restore() -> 6, account(1) -> 7, storeyOf(0, 4) -> 3, account(10) -> 17, clear() -> 6, clear() -> 0");
        Notation.run("2 clear takes back what was told, done, lost and fined",
            "bundle(30, 60) -> 0, build(0, 8, 9) -> 0, build(0, 4, 8) -> 1, crew(4) -> 0, up(0, 0) -> 1",
            "lift(0, 1) -> 19, inspector(9) -> 0, day(12) -> 0, inspect(0, 0) -> 1, signal(8) -> 0, day(1) -> 2",
            "account(13) -> 9, account(14) -> 4, account(15) -> 2, account(16) -> 12, clear() -> 13",
            "account(13) -> 0, account(14) -> 0, account(15) -> 0, account(16) -> 0, work(true) -> 0",
            "bundle(8, 0) -> 0, build(0, 4, 40) -> 0, work(true) -> 40, doneShare() -> 0.0, storeyOf(0, 4) -> 0",
            "storeyOf(0, 5) -> 0, crew(2) -> 0, crewOf(0, 1) -> NOTHING, crewOf(0, 3) -> 0, inspector(1) -> 0",
            "inspectorOf(0, 2) -> 0");
    }

    private static void promise3() {
        Notation.run("3 append",
            "append(31) -> BAD, append(127) -> BAD, append(0) -> BAD, append(65535) -> BAD, append(233) -> BAD",
            "account(17) -> 0, append(32) -> 1, append(126) -> 2, append('b') -> 3, account(17) -> 3");
        Notation.run("3 append: at most 60",
            "59 times append('a') -> *, append('a') -> 60, append('a') -> BAD, append(31) -> BAD, account(17) -> 60",
            "script() -> BAD, account(17) -> 0, append('a') -> 1");
        Notation.run("3 append is no change", "append('a') -> 1, account(18) -> 0, bundle(3, 3) -> 0",
            "append('b') -> 2, undo() -> 0, account(17) -> 2");
    }

    private static void promise4() {
        Notation.run("4 bundle",
            "bundle(0, 0) -> BAD, bundle(31, 0) -> BAD, bundle(1, -1) -> BAD, bundle(1, 61) -> BAD",
            "bundle(-2147483648, 0) -> BAD, bundle(1, 2147483647) -> BAD, account(18) -> 0",
            "bundle(1, 0) -> 0, bundle(30, 60) -> 1, bundleOf(0, false) -> 1, bundleOf(0, true) -> 0",
            "bundleOf(1, false) -> 30, bundleOf(1, true) -> 60, 6 times bundle(2, 3) -> *, account(2) -> 8",
            "bundle(1, 1) -> REFUSED, reason(0, false) -> 1, reason(0, true) -> 8, reason(1, false) -> NOTHING",
            "bundle(0, 1) -> BAD, account(2) -> 8, account(3) -> 43, bundleOf(7, true) -> 3, bundleOf(8, true) -> NONE");
        Notation.run("4 bundle: an empty one is kept", "bundle(4, 0) -> 0, build(0, 4, 0) -> 0",
            "bundleOf(0, false) -> 0, bundle(5, 5) -> 1, bundleOf(0, true) -> 0");
        Notation.run("4 bundle: in a storm too", "signal(10) -> 0, bundle(4, 0) -> 0");
    }

    private static void promise5() {
        Notation.run("5 strips",
            "strips(0) -> BAD, strips(100) -> BAD, strips(-1) -> BAD, strips(2147483647) -> BAD, account(9) -> 60",
            "account(18) -> 0, strips(1) -> 61, strips(99) -> 160, account(9) -> 160, strips(41) -> 200",
            "strips(1) -> 200, account(18) -> 4, account(9) -> 200, undo() -> 3, undo() -> 2, account(9) -> 160");
    }

    private static void promise6() {
        Notation.run("6 build",
            "build(0, 4, 0) -> NONE, bundle(30, 6) -> 0, build(-1, 4, 0) -> NONE, build(1, 3, 41) -> NONE",
            "build(0, 3, 0) -> BAD, build(0, 9, 0) -> BAD, build(0, 4, -1) -> BAD, build(0, 4, 41) -> BAD",
            "account(9) -> 60, bundleOf(0, false) -> 30, build(0, 4, 0) -> 0, build(0, 8, 40) -> 1",
            "bundleOf(0, false) -> 18, account(9) -> 36, storeyOf(0, 0) -> 4, storeyOf(0, 3) -> 0",
            "storeyOf(1, 0) -> 8, storeyOf(1, 1) -> 6, storeyOf(1, 2) -> 0, storeyOf(1, 3) -> 40",
            "storeyOf(1, 4) -> 0, storeyOf(1, 5) -> 0, storeyOf(1, 6) -> 0, account(4) -> 2");
        Notation.run("6 build: the bundle has too few poles", "bundle(7, 0) -> 0, bundle(30, 0) -> 1",
            "build(0, 8, 1) -> REFUSED, reason(0, false) -> 2, reason(0, true) -> 7, build(0, 7, 1) -> 0",
            "build(0, 4, 1) -> REFUSED, reason(0, true) -> 0, account(9) -> 46");
        Notation.run("6 build: too few strips", "bundle(30, 0) -> 0, bundle(30, 0) -> 1, 3 times build(0, 8, 1) -> *",
            "build(0, 6, 1) -> 3, build(1, 4, 1) -> REFUSED, reason(0, false) -> 3, reason(0, true) -> 8",
            "strips(7) -> 7, build(1, 4, 1) -> REFUSED, reason(0, true) -> 1, strips(1) -> 8, build(1, 4, 1) -> 4",
            "account(9) -> 0, work(true) -> 5");
        Notation.run("6 build: the order of reasons, at most 10",
            "strips(99) -> 159, bundle(30, 0) -> 0, bundle(20, 0) -> 1, 7 times build(0, 4, 1) -> *",
            "3 times build(1, 5, 1) -> *, account(4) -> 10, signal(3) -> 0, build(0, 8, 1) -> REFUSED",
            "reason(0, false) -> 1, reason(0, true) -> 10, build(0, 9, 0) -> BAD, build(2, 9, 0) -> NONE");
        Notation.run("6 build: the signal before the poles, the poles before the strips",
            "bundle(30, 0) -> 0, bundle(30, 0) -> 1, bundle(3, 0) -> 2, 3 times build(0, 8, 1) -> *, build(0, 6, 1) -> 3",
            "signal(3) -> 0, build(2, 4, 1) -> REFUSED, reason(0, false) -> 4, reason(0, true) -> 3, signal(2) -> 3",
            "build(2, 4, 1) -> REFUSED, reason(0, false) -> 2, reason(0, true) -> 3, build(1, 4, 1) -> REFUSED",
            "reason(0, false) -> 3, account(18) -> 8");
        Notation.run("6 build: the poles keep their age",
            "bundle(10, 5) -> 0, day(7) -> 0, build(0, 4, 0) -> 0, storeyOf(0, 1) -> 6, day(7) -> 0",
            "storeyOf(0, 1) -> 7, bundleOf(0, true) -> 7");
    }

    private static void promise7() {
        Notation.run("7 tie",
            "tie(0) -> NONE, bundle(20, 0) -> 0, build(0, 5, 0) -> 0, tie(-1) -> NONE, tie(1) -> NONE",
            "tie(0) -> REFUSED, reason(0, false) -> 10, reason(0, true) -> 0, day(3) -> 0, build(0, 4, 0) -> 1",
            "tie(1) -> REFUSED, reason(0, true) -> 1, tie(0) -> 3, account(9) -> 32, storeyOf(0, 2) -> 0",
            "storeyOf(1, 2) -> 0, day(1) -> 0, tie(0) -> 1, account(9) -> 22");
        Notation.run("7 tie: the signal before the new tie, the new tie before the strips",
            "bundle(30, 0) -> 0, 3 times build(0, 8, 0) -> *, signal(3) -> 0, tie(0) -> REFUSED, reason(0, false) -> 4",
            "reason(0, true) -> 3, signal(0) -> 3, tie(2) -> REFUSED, reason(0, false) -> 10, reason(0, true) -> 2",
            "day(1) -> 0, tie(1) -> REFUSED, reason(0, false) -> 3, reason(0, true) -> 4, strips(4) -> 16",
            "tie(1) -> 1, account(9) -> 0, tie(0) -> REFUSED, reason(0, true) -> 16");
        Notation.run("7 tie: a shut storey is open again",
            "bundle(20, 0) -> 0, build(0, 4, 0) -> 0, inspector(5) -> 0, day(16) -> 0, inspect(0, 0) -> 1",
            "account(5) -> 1, inspectorOf(0, 1) -> 1, tie(0) -> 16, account(5) -> 0, inspectorOf(0, 1) -> 0",
            "storeyOf(0, 5) -> 0, inspect(0, 0) -> 0, crew(1) -> 0, up(0, 0) -> 1");
    }

    private static void promise8() {
        Notation.run("8 crew",
            "crew(0) -> BAD, crew(5) -> BAD, crew(-2147483648) -> BAD, crew(1) -> 0, crew(4) -> 1, crewOf(1, 0) -> 4",
            "crewOf(1, 1) -> NOTHING, crewOf(1, 2) -> 0, crewOf(1, 3) -> 0, 3 times crew(2) -> *, account(7) -> 5",
            "crew(2) -> REFUSED, reason(0, false) -> 1, reason(0, true) -> 5, crew(5) -> BAD, account(18) -> 5");
    }

    private static void promise12() {
        Notation.run("12 signal",
            "signal(-1) -> BAD, signal(11) -> BAD, account(1) -> 0, account(18) -> 0, signal(10) -> 0",
            "signal(0) -> 10, signal(0) -> 0, account(18) -> 3, account(1) -> 0");
        Notation.run("12 signal: from 3 all crews come down",
            "bundle(20, 0) -> 0, 2 times build(0, 4, 0) -> *, 3 times crew(1) -> *, up(0, 0) -> 1, up(1, 1) -> 1",
            "signal(2) -> 0, account(8) -> 2, signal(3) -> 2, account(8) -> 0, crewOf(0, 1) -> NOTHING",
            "crewOf(1, 1) -> NOTHING, storeyOf(0, 6) -> 0, signal(0) -> 3, account(8) -> 0");
    }

    private static void promise13() {
        Notation.run("13 inspector",
            "inspector(0) -> BAD, inspector(10) -> BAD, inspector(1) -> 0, inspector(9) -> 1, inspector(5) -> 2",
            "inspector(5) -> REFUSED, reason(0, false) -> 1, reason(0, true) -> 3, inspector(10) -> BAD",
            "account(12) -> 3, inspectorOf(0, 0) -> 1, inspectorOf(1, 0) -> 9, inspectorOf(2, 0) -> 5");
    }
}
