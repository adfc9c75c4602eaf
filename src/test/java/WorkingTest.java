/** Promises 9 to 11, 14 and 15: crews, the lift, inspectors and days. */
public final class WorkingTest {
    private WorkingTest() {
    }

    public static void main(String[] args) {
        promise9();
        promise10();
        promise11();
        promise14();
        promise15Work();
        promise15Ties();
        promise15Falls();
        promise15Weeks();
        Notation.end("WorkingTest");
    }

    private static void promise9() {
        Notation.run("9 up",
            "up(0, 0) -> NONE, crew(1) -> 0, up(0, 0) -> NONE, bundle(30, 0) -> 0, 3 times build(0, 4, 0) -> *",
            "crew(2) -> 1, crew(3) -> 2, up(-1, 0) -> NONE, up(3, 0) -> NONE, up(0, -1) -> NONE, up(0, 3) -> NONE",
            "up(0, 2) -> 1, up(1, 2) -> 2, up(2, 2) -> 3, up(1, 0) -> 1, storeyOf(2, 6) -> 5, storeyOf(0, 6) -> 2",
            "crewOf(1, 1) -> 0, account(8) -> 3, up(1, 2) -> 3, up(1, 2) -> REFUSED, reason(0, false) -> 7",
            "reason(0, true) -> 2");
        Notation.run("9 up: the signal",
            "bundle(30, 0) -> 0, build(0, 4, 0) -> 0, crew(1) -> 0, signal(3) -> 0, up(0, 0) -> REFUSED",
            "reason(0, false) -> 4, reason(0, true) -> 3, day(21) -> 0, up(0, 0) -> REFUSED, reason(0, false) -> 4",
            "signal(2) -> 3, up(0, 0) -> REFUSED, reason(0, false) -> 5, tie(0) -> 21, up(0, 0) -> 1");
        Notation.run("9 up: the lowest storey whose tie is old",
            "bundle(30, 0) -> 0, 4 times build(0, 4, 0) -> *, crew(1) -> 0, crew(1) -> 1, up(1, 0) -> 1, day(20) -> 0",
            "up(0, 3) -> 1, tie(0) -> 20, day(1) -> 0, up(0, 2) -> REFUSED, reason(0, false) -> 5",
            "reason(0, true) -> 1, reason(1, false) -> NOTHING, up(0, 0) -> 2, up(0, 3) -> REFUSED",
            "reason(0, true) -> 1, strips(99) -> *, tie(1) -> 21, tie(3) -> 21, up(0, 1) -> 1, up(0, 3) -> REFUSED",
            "reason(0, true) -> 2, up(0, 1) -> REFUSED, reason(0, false) -> 7");
        Notation.run("9 up: there already, though its tie is old",
            "bundle(30, 0) -> 0, build(0, 4, 0) -> 0, crew(1) -> 0, up(0, 0) -> 1, day(21) -> 0, up(0, 0) -> REFUSED",
            "reason(0, false) -> 7, reason(0, true) -> 0");
        Notation.run("9 up: shut, but not those above it",
            "bundle(30, 0) -> 0, 3 times build(0, 4, 0) -> *, crew(1) -> 0, inspector(2) -> 0, inspector(9) -> 1",
            "day(15) -> 0, inspect(1, 1) -> 1, inspect(1, 2) -> 1, up(0, 1) -> REFUSED, reason(0, false) -> 6",
            "reason(0, true) -> 1, reason(1, false) -> 13, reason(1, true) -> 1, reason(2, false) -> NOTHING",
            "tie(2) -> 15, up(0, 2) -> 1, up(0, 1) -> REFUSED, day(6) -> 0, up(0, 1) -> REFUSED",
            "reason(0, false) -> 5, reason(1, false) -> NOTHING, reason(1, true) -> NOTHING");
    }

    private static void promise10() {
        Notation.run("10 down",
            "down(0) -> NONE, crew(2) -> 0, down(-1) -> NONE, down(1) -> NONE, down(0) -> REFUSED, reason(0, false) -> 11",
            "reason(0, true) -> 0, crew(2) -> 1, down(1) -> REFUSED, reason(0, true) -> 1, bundle(20, 0) -> 0",
            "3 times build(0, 4, 0) -> *, up(0, 2) -> 1, up(1, 0) -> 1, down(0) -> 2, crewOf(0, 1) -> NOTHING",
            "storeyOf(2, 6) -> 0, account(8) -> 1, down(0) -> REFUSED, down(1) -> 0, undo() -> 7, crewOf(1, 1) -> 0");
        Notation.run("10 down: from an old one too",
            "bundle(20, 0) -> 0, build(0, 4, 0) -> 0, crew(1) -> 0, up(0, 0) -> 1, day(30) -> 0, down(0) -> 0");
    }

    private static void promise11() {
        Notation.run("11 lift",
            "lift(0, 1) -> NONE, bundle(30, 0) -> 0, 3 times build(0, 4, 0) -> *, lift(-1, 0) -> NONE",
            "lift(3, 1) -> NONE, lift(0, 0) -> BAD, lift(0, 10) -> BAD, lift(0, -2147483648) -> BAD",
            "lift(0, 9) -> 11, lift(1, 2) -> 7, lift(2, 2) -> 1, storeyOf(0, 4) -> 9, storeyOf(1, 4) -> 2",
            "storeyOf(2, 4) -> 2, account(10) -> 1, account(11) -> 13, lift(1, 1) -> REFUSED, reason(0, false) -> 8",
            "reason(0, true) -> 1, lift(0, 1) -> REFUSED, reason(0, false) -> 9, reason(0, true) -> 9",
            "day(1) -> 0, account(10) -> 20, lift(2, 6) -> 2, lift(2, 1) -> REFUSED, reason(0, true) -> 2",
            "lift(2, 2) -> REFUSED, reason(0, false) -> 9, reason(0, true) -> 8");
        Notation.run("11 lift: the signal is named first",
            "bundle(30, 0) -> 0, build(0, 4, 0) -> 0, lift(0, 9) -> 11, signal(4) -> 0, lift(0, 9) -> REFUSED",
            "reason(0, false) -> 4, reason(0, true) -> 4, lift(0, 0) -> BAD, signal(2) -> 4, lift(0, 9) -> REFUSED",
            "reason(0, false) -> 9, day(1) -> 0, account(10) -> 20");
        Notation.run("11 lift: to old and shut storeys",
            "bundle(30, 0) -> 0, build(0, 4, 0) -> 0, inspector(1) -> 0, day(30) -> 0, inspect(0, 0) -> 1",
            "lift(0, 9) -> 11");
        Notation.run("11 lift: no turns for a high storey",
            "strips(99) -> 159, bundle(30, 0) -> 0, bundle(20, 0) -> 1, 7 times build(0, 4, 0) -> *",
            "3 times build(1, 4, 0) -> *, lift(9, 3) -> REFUSED, reason(0, false) -> 8, reason(0, true) -> 20",
            "lift(9, 2) -> 0, lift(0, 1) -> REFUSED, reason(0, true) -> 0");
    }

    private static void promise14() {
        Notation.run("14 inspect",
            "inspect(0, 0) -> NONE, inspector(6) -> 0, inspect(0, 0) -> NONE, bundle(30, 0) -> 0",
            "2 times build(0, 4, 0) -> *, inspect(-1, 0) -> NONE, inspect(1, 0) -> NONE, inspect(0, -1) -> NONE",
            "inspect(0, 2) -> NONE, signal(3) -> 0, inspect(0, 0) -> REFUSED, reason(0, false) -> 4",
            "reason(0, true) -> 3, signal(0) -> 3, 3 times crew(1) -> *, up(0, 0) -> 1, up(1, 0) -> 2, up(2, 1) -> 1",
            "day(14) -> 0, inspect(0, 0) -> 0, account(13) -> 0, storeyOf(0, 5) -> 0, account(8) -> 3, day(1) -> 0",
            "inspect(0, 0) -> 1, storeyOf(0, 5) -> 1, storeyOf(1, 5) -> 0, account(5) -> 1, account(8) -> 1",
            "crewOf(2, 1) -> 1, crewOf(0, 1) -> NOTHING, account(13) -> 6, inspectorOf(0, 2) -> 1");
        Notation.run("14 inspect: again, by another one",
            "inspector(3) -> 0, inspector(8) -> 1, bundle(30, 0) -> 0, build(0, 4, 0) -> 0, day(13) -> 0",
            "inspect(0, 0) -> 0, inspect(1, 0) -> 1, inspect(0, 0) -> 0, day(5) -> 0, inspect(0, 0) -> 1",
            "inspect(1, 0) -> 1, account(13) -> 19, inspectorOf(0, 1) -> 0, inspectorOf(1, 1) -> 1",
            "inspectorOf(0, 2) -> 1, inspectorOf(1, 2) -> 2, account(5) -> 1, crew(1) -> 0, up(0, 0) -> REFUSED",
            "reason(1, true) -> 1");
        Notation.run("14 inspect: a good storey is a change too",
            "inspector(3) -> 0, bundle(30, 0) -> 0, build(0, 4, 0) -> 0, inspect(0, 0) -> 0, account(18) -> 4");
    }

    private static void promise15Work() {
        Notation.run("15 day: a number that is out of range",
            "day(0) -> BAD, day(31) -> BAD, day(-1) -> BAD, day(2147483647) -> BAD, account(0) -> 0",
            "account(18) -> 0, day(30) -> 0, account(0) -> 30, day(1) -> 0, account(0) -> 31, account(18) -> 2");
        Notation.run("15 day: crews work in the order of their numbers",
            "bundle(30, 0) -> 0, build(0, 4, 9) -> 0, build(0, 4, 5) -> 1, crew(4) -> 0, crew(3) -> 1, crew(1) -> 2",
            "up(2, 0) -> 1, up(1, 0) -> 2, up(0, 1) -> 1, lift(0, 3) -> 17, lift(1, 1) -> 15, day(1) -> 0",
            "storeyOf(0, 3) -> 5, storeyOf(0, 4) -> 1, storeyOf(1, 3) -> 1, storeyOf(1, 4) -> 0, crewOf(0, 3) -> 4",
            "crewOf(1, 3) -> 3, crewOf(2, 3) -> 1, account(14) -> 8, account(10) -> 20, day(1) -> 0",
            "storeyOf(0, 3) -> 2, crewOf(1, 3) -> 6, crewOf(2, 3) -> 1, crewOf(0, 3) -> 4, lift(0, 9) -> 11",
            "day(1) -> 0, storeyOf(0, 3) -> 0, storeyOf(0, 4) -> 8, crewOf(1, 3) -> 8, crewOf(2, 3) -> 1",
            "account(14) -> 13, day(5) -> 0, storeyOf(0, 4) -> 8, account(14) -> 13");
        Notation.run("15 day: no work over an old tie",
            "bundle(30, 0) -> 0, build(0, 4, 40) -> 0, day(10) -> 0, build(0, 4, 40) -> 1, crew(1) -> 0, crew(2) -> 1",
            "up(0, 0) -> 1, up(1, 1) -> 1, lift(0, 6) -> 14, lift(1, 6) -> 2, day(9) -> 0, storeyOf(0, 3) -> 34",
            "storeyOf(1, 3) -> 28, lift(0, 9) -> 11, lift(1, 5) -> 1, storeyOf(0, 2) -> 19, day(1) -> 0",
            "storeyOf(0, 3) -> 33, day(1) -> 0, storeyOf(0, 3) -> 32, storeyOf(1, 3) -> 24, storeyOf(0, 2) -> 21",
            "day(1) -> 0, storeyOf(0, 3) -> 32, storeyOf(1, 3) -> 24, storeyOf(1, 4) -> 3, tie(0) -> 22, day(1) -> 0",
            "storeyOf(0, 3) -> 31, storeyOf(1, 3) -> 22");
        Notation.run("15 day: the lowest tie is not old, the one between is",
            "bundle(30, 0) -> 0, 3 times build(0, 4, 9) -> *, crew(1) -> 0, up(0, 2) -> 1, lift(2, 3) -> 11",
            "day(21) -> 0, storeyOf(2, 3) -> 6, lift(2, 3) -> 11, tie(0) -> 21, tie(2) -> 21, day(1) -> 0",
            "storeyOf(2, 3) -> 6, strips(9) -> *, tie(1) -> 22, day(1) -> 0, storeyOf(2, 3) -> 5");
    }

    private static void promise15Ties() {
        Notation.run("15 day: ties by the signal, up to 99",
            "bundle(30, 0) -> 0, build(0, 8, 0) -> 0, signal(7) -> 0, day(1) -> 0, storeyOf(0, 2) -> 1, signal(8) -> 7",
            "day(1) -> 0, storeyOf(0, 2) -> 5, signal(7) -> 8, 3 times day(30) -> *, storeyOf(0, 2) -> 95",
            "day(4) -> 0, storeyOf(0, 2) -> 99, day(1) -> 0, storeyOf(0, 2) -> 99, account(6) -> 1",
            "tie(0) -> REFUSED, signal(0) -> 7, tie(0) -> 99, storeyOf(0, 2) -> 0, account(6) -> 0");
        Notation.run("15 day: 4 days more, up to 99",
            "bundle(30, 0) -> 0, build(0, 8, 0) -> 0, 3 times day(30) -> *, day(7) -> 0, storeyOf(0, 2) -> 97",
            "signal(8) -> 0, account(4) -> 1, day(1) -> 1, account(15) -> 1");
    }

    private static void promise15Falls() {
        Notation.run("15 day: the lowest that is too weak falls, with all above",
            "bundle(30, 0) -> 0, bundle(30, 60) -> 1, build(0, 8, 5) -> 0, build(1, 8, 6) -> 1, build(0, 8, 7) -> 2",
            "lift(1, 2) -> 16, lift(2, 1) -> 13, wouldFall(8) -> NOTHING, wouldFall(10) -> NOTHING",
            "strength(1, false) -> 10, signal(10) -> 0, day(1) -> 0, storeyOf(0, 2) -> 4, day(1) -> 2",
            "account(4) -> 1, account(15) -> 2, account(16) -> 16, account(11) -> 0, work(false) -> 5",
            "work(true) -> 5, storeyOf(1, 0) -> NONE, storeyOf(0, 2) -> 8, account(3) -> 36, account(14) -> 0");
        Notation.run("15 day: just as strong as the signal stands",
            "bundle(30, 60) -> 0, build(0, 6, 0) -> 0, strength(0, false) -> 8, signal(8) -> 0, day(1) -> 0",
            "day(1) -> 1, account(4) -> 0, signal(0) -> 8, build(0, 6, 0) -> 0, signal(9) -> 0, day(1) -> 1",
            "account(15) -> 2, account(16) -> 12");
        Notation.run("15 day: nothing falls below 8",
            "bundle(30, 60) -> 0, build(0, 4, 0) -> 0, strength(0, false) -> 6, signal(7) -> 0, day(30) -> 0",
            "strength(0, false) -> 0, account(4) -> 1");
        Notation.run("15 day: what falls in several days is told in one",
            "bundle(30, 60) -> 0, bundle(30, 0) -> 1, build(1, 8, 0) -> 0, build(0, 8, 1) -> 1, build(0, 7, 2) -> 2",
            "signal(8) -> 0, day(1) -> 0, day(2) -> 1, account(4) -> 2, undo() -> 7, day(30) -> 3, account(16) -> 23",
            "account(4) -> 0, work(true) -> 0, describe() -> 4");
        Notation.run("15 day: it falls before the poles are a week older",
            "bundle(30, 59) -> 0, day(6) -> 0, build(0, 4, 0) -> 0, strength(0, false) -> 7, bundle(6, 54) -> 1",
            "undo() -> 3, signal(7) -> 0, day(1) -> 0, strength(0, false) -> 6, storeyOf(0, 1) -> 60");
        Notation.run("15 day: the strength of the seventh day is that of the week before",
            "bundle(30, 53) -> 0, day(6) -> 0, build(0, 4, 0) -> 0, strength(0, false) -> 8, signal(8) -> 0",
            "day(1) -> 0, storeyOf(0, 1) -> 54, strength(0, false) -> 7, day(1) -> 1");
        Notation.run("15 day: a storey that is shut falls too, and a new one is open",
            "bundle(30, 60) -> 0, inspector(9) -> 0, build(0, 4, 0) -> 0, day(12) -> 0, inspect(0, 0) -> 1",
            "inspectorOf(0, 1) -> 1, signal(8) -> 0, day(1) -> 1, inspectorOf(0, 1) -> 0, inspectorOf(0, 2) -> 1",
            "account(5) -> 0, signal(0) -> 8, build(0, 4, 0) -> 0, storeyOf(0, 5) -> 0, storeyOf(0, 2) -> 0");
        Notation.run("15 day: nothing of what fell is left",
            "bundle(30, 0) -> 0, bundle(30, 60) -> 1, build(0, 8, 0) -> 0, build(1, 4, 3) -> 1, lift(1, 3) -> 14",
            "signal(8) -> 0, day(1) -> 1, wouldFall(8) -> NOTHING, weakest() -> 0, oldest(1) -> NONE, account(4) -> 1",
            "signal(0) -> 8, highest() -> 0, strength(1, true) -> NONE, doneIn(1) -> NONE, oldIn(1) -> NONE",
            "tie(1) -> NONE, lift(1, 1) -> NONE, build(1, 4, 9) -> 1, storeyOf(1, 4) -> 0, storeyOf(1, 3) -> 9",
            "storeyOf(1, 2) -> 0, account(11) -> 0, work(true) -> 9");
    }

    private static void promise15Weeks() {
        Notation.run("15 day: a week older on each seventh day, up to 60",
            "bundle(9, 59) -> 0, bundle(9, 4) -> 1, build(1, 4, 0) -> 0, day(6) -> 0, bundleOf(0, true) -> 59",
            "storeyOf(0, 1) -> 4, day(1) -> 0, bundleOf(0, true) -> 60, bundleOf(1, true) -> 5, storeyOf(0, 1) -> 5",
            "day(6) -> 0, storeyOf(0, 1) -> 5, day(1) -> 0, storeyOf(0, 1) -> 6, bundleOf(0, true) -> 60",
            "day(30) -> 0, account(0) -> 44, storeyOf(0, 1) -> 10, bundleOf(1, true) -> 10, day(5) -> 0",
            "bundleOf(1, true) -> 11");
        Notation.run("15 day: poles of a storey up to 60",
            "bundle(9, 60) -> 0, build(0, 4, 0) -> 0, day(14) -> 0, storeyOf(0, 1) -> 60, bundleOf(0, true) -> 60");
    }
}
