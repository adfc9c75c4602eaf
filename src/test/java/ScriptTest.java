/** Promises 16 to 18: scripts, fault positions and reasons. */
public final class ScriptTest {
    private ScriptTest() {
    }

    public static void main(String[] args) {
        promise16();
        promise16AllOrNone();
        promise16EachLetter();
        promise17();
        promise17Places();
        promise18();
        Notation.end("ScriptTest");
    }

    private static void promise16() {
        Notation.run("16 script: all orders, as one change",
            "bundle(30, 0) -> 0, crew(3) -> 0, inspector(9) -> 0, save() -> 0",
            "type \"b0*4:12;b0*6:40;u0@1;l1*3;n10;d0;l0*9;u0@0;n2;i0@0;t0;g4\" -> 56, script() -> 12",
            "account(17) -> 0, account(18) -> 4, account(0) -> 12, account(1) -> 4, storeyOf(0, 0) -> 4",
            "storeyOf(1, 0) -> 6, storeyOf(0, 3) -> 6, storeyOf(1, 3) -> 31, storeyOf(0, 4) -> 7, account(13) -> 9",
            "storeyOf(0, 2) -> 0, storeyOf(1, 2) -> 12, account(9) -> 32, crewOf(0, 1) -> NOTHING, crewOf(0, 3) -> 15",
            "script() -> BAD, undo() -> 3, account(0) -> 0, account(4) -> 0, account(9) -> 60, undo() -> 2");
        Notation.run("16 script: at most 20 orders in 60 characters",
            "type \"g0;g1;g2;g0;g1;g2;g0;g1;g2;g0;g1;g2;g0;g1;g2;g0;g1;g2;g0;g10\" -> 60, script() -> 20",
            "account(1) -> 10, account(18) -> 1, type \"g0;g1;g2;g0;g1;g2;g0;g1;g2;g0;g1;g2;g0;g1;g2;g0;g1;g2;g0;g1\" -> 59",
            "script() -> 20, account(1) -> 1");
    }

    private static void promise16AllOrNone() {
        Notation.run("16 script: none of them",
            "bundle(30, 0) -> 0, build(0, 4, 5) -> 0, crew(1) -> 0, lift(0, 1) -> 19",
            "type \"u0@0;n7;t0;b0*8:9;g9;n30;t0\" -> 27, script() -> REFUSED, reason(0, false) -> 12",
            "reason(0, true) -> 6, reason(1, false) -> NOTHING, account(0) -> 0, account(1) -> 0, account(4) -> 1",
            "account(8) -> 0, account(9) -> 52, account(10) -> 19, account(11) -> 1, account(14) -> 0, account(15) -> 0",
            "account(16) -> 0, account(17) -> 0, account(18) -> 4, work(true) -> 5, crewOf(0, 3) -> 0",
            "bundleOf(0, true) -> 0, bundleOf(0, false) -> 26, undo() -> 3, storeyOf(0, 4) -> 0, account(10) -> 20");
        Notation.run("16 script: an order that returns NONE or BAD has no reason behind",
            "type \"t0\" -> 2, script() -> REFUSED, reason(0, false) -> 12, reason(0, true) -> 0, reason(1, false) -> NOTHING",
            "reason(1, true) -> NOTHING, down(0) -> NONE, type \"g2;g11\" -> 6, script() -> REFUSED, reason(0, true) -> 1",
            "reason(1, false) -> NOTHING, type \"n00\" -> 3, script() -> REFUSED, type \"n31\" -> 3, script() -> REFUSED",
            "type \"n30;n0\" -> 6, script() -> REFUSED, reason(0, true) -> 1, account(0) -> 0, account(18) -> 0");
        Notation.run("16 script: an old reason is not behind it",
            "crew(1) -> 0, down(0) -> REFUSED, reason(0, false) -> 11, type \"t9\" -> 2, script() -> REFUSED",
            "reason(0, false) -> 12, reason(1, false) -> NOTHING");
        Notation.run("16 script: an undone script leaves eight others",
            "8 times strips(1) -> *, type \"g1;t0\" -> 5, script() -> REFUSED, account(18) -> 8, 8 times undo() -> *",
            "account(9) -> 60, undo() -> NOTHING");
    }

    private static void promise16EachLetter() {
        Notation.run("16 script: b", "bundle(9, 0) -> 0, bundle(12, 6) -> 1, type \"b1*5:7\" -> 6, script() -> 1",
            "storeyOf(0, 0) -> 5, storeyOf(0, 1) -> 6, storeyOf(0, 3) -> 7, bundleOf(1, false) -> 7",
            "type \"b1*5:40;b1*2:1\" -> 14, script() -> REFUSED, reason(0, true) -> 1, reason(1, false) -> NOTHING",
            "type \"b1*8:09\" -> 7, script() -> REFUSED, reason(1, false) -> 2, reason(1, true) -> 7");
        Notation.run("16 script: t", "bundle(9, 0) -> 0, build(0, 4, 0) -> 0, day(2) -> 0, type \"t0\" -> 2, script() -> 1",
            "storeyOf(0, 2) -> 0, account(9) -> 44, type \"t0\" -> 2, script() -> REFUSED, reason(1, false) -> 10");
        Notation.run("16 script: u and d", "bundle(12, 0) -> 0, build(0, 4, 0) -> 0, build(0, 4, 0) -> 1, 3 times crew(1) -> *",
            "type \"u2@1;u1@0\" -> 9, script() -> 2, crewOf(2, 1) -> 1, crewOf(1, 1) -> 0, crewOf(0, 1) -> NOTHING",
            "type \"d2\" -> 2, script() -> 1, crewOf(2, 1) -> NOTHING, crewOf(1, 1) -> 0, type \"d1;d1\" -> 5",
            "script() -> REFUSED, reason(0, true) -> 1, reason(1, false) -> 11, reason(1, true) -> 1, crewOf(1, 1) -> 0");
        Notation.run("16 script: l", "bundle(12, 0) -> 0, build(0, 4, 0) -> 0, build(0, 4, 0) -> 1, type \"l1*3\" -> 4",
            "script() -> 1, storeyOf(1, 4) -> 3, storeyOf(0, 4) -> 0, account(10) -> 14, type \"l1*0\" -> 4",
            "script() -> REFUSED, type \"l1*7\" -> 4, script() -> REFUSED, reason(1, false) -> 9, reason(1, true) -> 3");
        Notation.run("16 script: g", "type \"g7\" -> 2, script() -> 1, account(1) -> 7, type \"g10\" -> 3, script() -> 1",
            "account(1) -> 10, type \"g00\" -> 3, script() -> 1, account(1) -> 0, type \"g02\" -> 3, script() -> 1",
            "account(1) -> 2");
        Notation.run("16 script: i", "bundle(12, 0) -> 0, build(0, 4, 0) -> 0, build(0, 4, 0) -> 1, inspector(1) -> 0",
            "inspector(9) -> 1, day(12) -> 0, type \"i1@0;i0@1\" -> 9, script() -> 2, storeyOf(0, 5) -> 1",
            "storeyOf(1, 5) -> 0, inspectorOf(1, 2) -> 1, crew(2) -> 0, type \"g2;u0@0\" -> 7, script() -> REFUSED",
            "reason(0, true) -> 1, reason(1, false) -> 6, reason(1, true) -> 0, reason(2, false) -> 13",
            "reason(2, true) -> 1, reason(3, false) -> NOTHING, account(1) -> 0");
        Notation.run("16 script: n", "type \"n9\" -> 2, script() -> 1, account(0) -> 9, type \"n21\" -> 3, script() -> 1",
            "account(0) -> 30");
    }

    private static void promise17() {
        Notation.run("17 fault",
            "fault() -> NOTHING, script() -> BAD, fault() -> 0, type \"x\" -> 1, script() -> BAD, fault() -> 0",
            "type \"g5\" -> 2, script() -> 1, fault() -> 0, type \"g5;\" -> 3, script() -> BAD, fault() -> 3",
            "type \"t0\" -> 2, script() -> REFUSED, fault() -> 3, clear() -> 0, fault() -> 3, account(1) -> 0",
            "type \"g1;g2 \" -> 6, script() -> BAD, fault() -> 5, account(1) -> 0, account(17) -> 0, account(18) -> 0",
            "reason(0, false) -> 12");
    }

    private static void promise17Places() {
        faultAt("b", 1);
        faultAt("b0", 2);
        faultAt("b0*", 3);
        faultAt("b0*4", 4);
        faultAt("b0*4:", 5);
        faultAt("b00*4:1", 2);
        faultAt("b0*44:1", 4);
        faultAt("b0@4:1", 2);
        faultAt("b0*4;1", 4);
        faultAt("b0*4:123", 7);
        faultAt("b0*4:1;", 7);
        faultAt("b0*4:1,t0", 6);
        faultAt("t", 1);
        faultAt("t00", 2);
        faultAt("t0;;t0", 3);
        faultAt(";t0", 0);
        faultAt(" t0", 0);
        faultAt("T0", 0);
        faultAt("u0*0", 2);
        faultAt("u0@", 3);
        faultAt("u0@11", 4);
        faultAt("d-1", 1);
        faultAt("d0@0", 2);
        faultAt("l0@1", 2);
        faultAt("l0*10", 4);
        faultAt("g", 1);
        faultAt("g:", 1);
        faultAt("g/", 1);
        faultAt("g100", 3);
        faultAt("g1*", 2);
        faultAt("i0*0", 2);
        faultAt("i0@0n1", 4);
        faultAt("n", 1);
        faultAt("n1n2", 2);
        faultAt("n12;n", 5);
        faultAt("n3;x3", 3);
        faultAt("g0;g0;g0;g0;g0;g0;g0;g0;g0;g0;g0;g0;g0;g0;g0;g0;g0;g0;g0;g0;", 60);
        faultAt("g0;g0;g0;g0;g0;g0;g0;g0;g0;g0;g0;g0;g0;g0;g0;g0;g0;g0;g0;g0g", 59);
    }

    private static void faultAt(String text, int place) {
        Notation.run("17 fault of " + text, "type \"" + text + "\" -> " + text.length(),
            "script() -> BAD, fault() -> " + place + ", account(17) -> 0, account(18) -> 0, account(1) -> 0");
    }

    private static void promise18() {
        Notation.run("18 reason",
            "reason(-1, true) -> BAD, reason(-2147483648, false) -> BAD, reason(0, true) -> NOTHING",
            "reason(2147483647, false) -> NOTHING, crew(0) -> BAD, up(0, 0) -> NONE, reason(0, false) -> NOTHING",
            "crew(1) -> 0, down(0) -> REFUSED, reason(0, false) -> 11, reason(0, true) -> 0, reason(1, false) -> NOTHING",
            "reason(1, true) -> NOTHING, reason(-1, true) -> BAD, crew(2) -> 1, day(4) -> 0, reason(0, false) -> 11",
            "undo() -> 2, reason(0, false) -> 11, tie(0) -> NONE, crew(9) -> BAD, reason(0, false) -> 11");
        Notation.run("18 reason: a script's refused order is told, though the rest is taken back",
            "bundle(9, 0) -> 0, build(0, 4, 0) -> 0, inspector(9) -> 0, crew(1) -> 0, save() -> 0",
            "type \"n12;i0@0;u0@0\" -> 13, script() -> REFUSED, reason(0, false) -> 12, reason(0, true) -> 2",
            "reason(1, false) -> 6, reason(1, true) -> 0, reason(2, false) -> 13, reason(2, true) -> 0",
            "reason(3, false) -> NOTHING, restore() -> 0, reason(2, false) -> 13, down(0) -> REFUSED",
            "reason(0, false) -> 11, reason(1, false) -> NOTHING");
    }
}
