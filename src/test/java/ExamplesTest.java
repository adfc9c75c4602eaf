/** The examples of the document, and its constants. */
public final class ExamplesTest {
    private ExamplesTest() {
    }

    public static void main(String[] args) {
        Notation.run("example 1",
            "bundle(30, 12) -> 0, build(0, 6, 10) -> 0, build(0, 4, 0) -> 1, crew(3) -> 0, up(0, 0) -> 1",
            "lift(0, 2) -> 18, lift(1, 9) -> 0, day(1) -> 0, storeyOf(0, 3) -> 7, crewOf(0, 3) -> 3",
            "inspector(9) -> 0, day(11) -> 0, inspect(0, 0) -> 1, up(0, 0) -> -3, reason(1, true) -> 0",
            "describe() -> 16, written(2) -> 52");
        Notation.run("example 2",
            "bundle(20, 60) -> 0, build(0, 4, 5) -> 0, build(0, 5, 9) -> 1, strength(1, true) -> 7",
            "weakest() -> 0, wouldFall(8) -> 0, signal(9) -> 0, crew(1) -> 0, up(0, 0) -> -3",
            "reason(0, true) -> 9, oldIn(1) -> -4, day(1) -> 2, account(15) -> 2, account(16) -> 9",
            "signal(0) -> 9, doneIn(0) -> -1");
        Notation.run("example 3",
            "bundle(12, 0) -> 0, crew(2) -> 0, build(0, 4, 9) -> 0, day(21) -> 0, up(0, 0) -> -3",
            "reason(0, false) -> 5, tie(0) -> 21, tie(0) -> -3, reason(0, true) -> 0, append('g') -> 1",
            "append('5') -> 2, append(';') -> 3, append('t') -> 4, append('0') -> 5, script() -> -3",
            "reason(1, true) -> 5");
        Notation.due("NONE", BambooTower.NONE, -1);
        Notation.due("BAD", BambooTower.BAD, -2);
        Notation.due("REFUSED", BambooTower.REFUSED, -3);
        Notation.due("NOTHING", BambooTower.NOTHING, -4);
        Notation.end("ExamplesTest");
    }
}
