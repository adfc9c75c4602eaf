/** "What it is" and the "Terms" of the scaffold: poles, storeys, crews, the lift, signals, inspectors and a day. */
final class TermsSentences {
    private TermsSentences() {
    }

    static void hold() {
        calls();
        numbers();
        poles();
        storeys();
        strengths();
        strips();
        crews();
        lift();
        signals();
        inspectors();
        orderOfADay();
        workOfADay();
        tiesOfADay();
        fallsOfADay();
        endOfADay();
        weeks();
    }

    private static void terms(String promises, String words, String... calls) {
        Sentence.holds("Terms, for promise " + promises, words, calls);
    }

    private static void calls() {
        String words = "An object is used for at most 512 calls after it has been made";
        Sentence.holds("What it is", words, "511 times day(30) -> *, account(0) -> 15330");
        Sentence.holds("What it is", words, "504 times signal(1) -> *, 7 times undo() -> *, undo() -> 0");
        Sentence.holds("What it is", words, "60 times append('g') -> *, 450 times append('g') -> BAD, script() -> BAD",
            "fault() -> 1");
        Sentence.holds("What it is", words, "bundle(8, 0) -> 0, build(0, 8, 0) -> 0, inspector(9) -> 0, day(12) -> 0",
            "507 times inspect(0, 0) -> 1, account(13) -> 4563");
    }

    private static void numbers() {
        terms("21", "divisions are rounded down",
            "bundle(30, 11) -> 0, 4 times build(0, 4, 0) -> *, strength(0, false) -> 15, strength(1, false) -> 15",
            "strength(2, false) -> 14, strength(3, false) -> 14, strength(3, true) -> 14, day(4) -> 0",
            "strength(0, false) -> 15, strength(0, true) -> 15, day(1) -> 0, strength(0, false) -> 14",
            "strength(0, true) -> 14, strength(3, false) -> 13, strength(3, true) -> 13");
        terms("33 and 34", "All numbers are whole, but where it is said",
            "bundle(30, 0) -> 0, build(0, 4, 1) -> 0, build(0, 5, 1) -> 1, meanStrength() -> 16.5, crew(1) -> 0",
            "up(0, 0) -> 1, lift(0, 1) -> 19, day(1) -> 0, doneShare() -> 0.5");
    }

    private static void poles() {
        terms("4", "At most 8 bundles are kept, numbered from 0",
            "bundle(3, 0) -> 0, 6 times bundle(1, 0) -> *, bundle(2, 0) -> 7, account(2) -> 8, look",
            "bundle(1, 0) -> REFUSED, same, bundleOf(0, false) -> 3, bundleOf(7, false) -> 2, bundleOf(8, false) -> NONE");
        terms("4", "each with 1 to 30 poles at first",
            "bundle(0, 0) -> BAD, bundle(31, 0) -> BAD, bundle(-2147483648, 0) -> BAD, bundle(2147483647, 0) -> BAD",
            "bundle(1, 0) -> 0, bundle(30, 0) -> 1, bundleOf(0, false) -> 1, bundleOf(1, false) -> 30");
        terms("4 and 6, of a bundle that is used up", "each with 1 to 30 poles at first",
            "7 times bundle(1, 0) -> *, bundle(4, 9) -> 7, build(7, 4, 0) -> 0, bundleOf(7, false) -> 0",
            "bundleOf(7, true) -> 9, account(2) -> 8, account(3) -> 7, bundle(1, 0) -> REFUSED");
        terms("4", "all of the same age, from 0 to 60 weeks",
            "bundle(1, -1) -> BAD, bundle(1, 61) -> BAD, bundle(1, -2147483648) -> BAD, bundle(1, 2147483647) -> BAD",
            "bundle(1, 0) -> 0, bundle(1, 60) -> 1, bundleOf(0, true) -> 0, bundleOf(1, true) -> 60");
        terms("21", "A pole is strong by 12 less a sixth of its age.",
            "bundle(4, 0) -> 0, bundle(4, 5) -> 1, bundle(4, 6) -> 2, bundle(4, 11) -> 3, bundle(4, 12) -> 4",
            "bundle(4, 59) -> 5, bundle(4, 60) -> 6, build(0, 4, 0) -> 0, build(1, 4, 0) -> 1, build(2, 4, 0) -> 2",
            "build(3, 4, 0) -> 3, build(4, 4, 0) -> 4, build(5, 4, 0) -> 5, build(6, 4, 0) -> 6",
            "strength(0, false) -> 16, strength(1, false) -> 16, strength(2, false) -> 14, strength(3, false) -> 14",
            "strength(4, false) -> 12, strength(5, false) -> 5, strength(6, false) -> 3");
    }

    private static void storeys() {
        terms("6", "At most 10 storeys stand, numbered from 0, the lowest one.",
            "strips(99) -> 159, bundle(30, 0) -> 0, bundle(30, 0) -> 1, build(0, 5, 0) -> 0, 6 times build(0, 4, 0) -> *",
            "2 times build(1, 4, 0) -> *, build(1, 8, 0) -> 9, account(4) -> 10, look, build(1, 4, 0) -> REFUSED, same",
            "storeyOf(0, 0) -> 5, storeyOf(9, 0) -> 8, storeyOf(10, 0) -> NONE, storeyOf(-1, 0) -> NONE");
        terms("6 and 15, of storeys in place of those that fell", "At most 10 storeys stand, numbered from 0",
            "strips(99) -> 159, bundle(30, 0) -> 0, bundle(30, 60) -> 1, bundle(30, 60) -> 2, build(0, 8, 0) -> 0",
            "7 times build(1, 4, 0) -> *, build(2, 4, 0) -> 8, build(2, 4, 0) -> 9, signal(8) -> 0, day(1) -> 9",
            "account(4) -> 1, signal(0) -> 8, strips(99) -> 170, bundle(30, 0) -> 3, build(0, 4, 0) -> 1",
            "7 times build(3, 4, 0) -> *, build(0, 4, 0) -> 9, build(0, 4, 0) -> REFUSED, reason(0, true) -> 10");
        terms("6", "The next one is built of 4 to 8 poles of one bundle",
            "bundle(30, 0) -> 0, look, build(0, 3, 0) -> BAD, build(0, 9, 0) -> BAD, build(0, -2147483648, 0) -> BAD",
            "build(0, 2147483647, 0) -> BAD, build(0, 0, 0) -> BAD, all same, build(0, 4, 0) -> 0, build(0, 8, 0) -> 1",
            "storeyOf(0, 0) -> 4, storeyOf(1, 0) -> 8, bundleOf(0, false) -> 18");
        terms("6, of one bundle alone", "of 4 to 8 poles of one bundle",
            "bundle(3, 0) -> 0, bundle(30, 7) -> 1, build(0, 4, 0) -> REFUSED, reason(0, false) -> 2, reason(0, true) -> 3",
            "bundleOf(1, false) -> 30, build(1, 4, 0) -> 0, bundleOf(0, false) -> 3, bundleOf(1, false) -> 26",
            "storeyOf(0, 1) -> 7");
        terms("6, of just as many poles as there are", "of 4 to 8 poles of one bundle",
            "bundle(8, 0) -> 0, build(0, 8, 0) -> 0, bundleOf(0, false) -> 0, bundle(4, 0) -> 1, build(1, 4, 0) -> 1",
            "bundleOf(1, false) -> 0");
        terms("6", "and of 2 strips for each",
            "bundle(30, 0) -> 0, bundle(30, 0) -> 1, build(0, 4, 0) -> 0, account(9) -> 52, build(0, 8, 0) -> 1",
            "account(9) -> 36, build(0, 8, 0) -> 2, build(0, 6, 0) -> 3, account(9) -> 8, build(1, 5, 0) -> REFUSED",
            "account(9) -> 8, build(1, 4, 0) -> 4, account(9) -> 0, build(1, 4, 0) -> REFUSED, account(9) -> 0");
        terms("6", "its tie is 0 days old then",
            "bundle(30, 0) -> 0, build(0, 8, 0) -> 0, storeyOf(0, 2) -> 0, day(9) -> 0, build(0, 4, 0) -> 1",
            "storeyOf(0, 2) -> 9, storeyOf(1, 2) -> 0, oldIn(1) -> 21");
        terms("6, in place of one that fell", "its tie is 0 days old then",
            "bundle(30, 60) -> 0, build(0, 4, 0) -> 0, day(3) -> 0, signal(8) -> 0, day(1) -> 1, signal(0) -> 8",
            "build(0, 4, 0) -> 0, storeyOf(0, 2) -> 0");
        terms("6", "A storey has hours of work, from 0 to 40, that are told when it is built",
            "bundle(30, 0) -> 0, look, build(0, 4, -1) -> BAD, build(0, 4, 41) -> BAD, build(0, 4, -2147483648) -> BAD",
            "build(0, 4, 2147483647) -> BAD, all same, build(0, 4, 0) -> 0, build(0, 4, 40) -> 1, storeyOf(0, 3) -> 0",
            "storeyOf(1, 3) -> 40, work(false) -> 40");
        terms("6 and 11", "and loads, from 0 to 9, at first 0",
            "bundle(30, 0) -> 0, build(0, 4, 0) -> 0, storeyOf(0, 4) -> 0, lift(0, 8) -> 12, look, lift(0, 2) -> REFUSED",
            "same, lift(0, 1) -> 11, storeyOf(0, 4) -> 9, look, lift(0, 1) -> REFUSED, same, build(0, 4, 0) -> 1",
            "storeyOf(1, 4) -> 0");
        terms("6 and 11, in place of one that fell", "and loads, from 0 to 9, at first 0",
            "bundle(30, 60) -> 0, build(0, 4, 7) -> 0, lift(0, 9) -> 11, signal(8) -> 0, day(1) -> 1, signal(0) -> 8",
            "build(0, 4, 0) -> 0, storeyOf(0, 4) -> 0, account(11) -> 0, lift(0, 9) -> 11");
        terms("9, 26, 28 and 35", "A tie that is more than 20 days old is old.",
            "bundle(30, 0) -> 0, build(0, 4, 0) -> 0, crew(1) -> 0, day(20) -> 0, storeyOf(0, 2) -> 20, account(6) -> 0",
            "highest() -> 0, oldIn(0) -> 1, up(0, 0) -> 1, down(0) -> 0, day(1) -> 0, storeyOf(0, 2) -> 21",
            "account(6) -> 1, highest() -> NOTHING, oldIn(0) -> 0, up(0, 0) -> REFUSED");
    }

    private static void strengths() {
        terms("21", "A storey is strong by what one of its poles is",
            "bundle(4, 0) -> 0, bundle(4, 36) -> 1, build(0, 4, 0) -> 0, build(1, 4, 0) -> 1, strength(0, false) -> 16",
            "strength(1, false) -> 10, strength(0, true) -> 16, strength(1, true) -> 10, day(7) -> 0, tie(0) -> 7",
            "tie(1) -> 7, strength(1, false) -> 10, 5 times day(7) -> 0, tie(0) -> 35, tie(1) -> 35, storeyOf(0, 1) -> 6",
            "strength(0, false) -> 15, strength(1, false) -> 9, strength(0, true) -> 15, strength(1, true) -> 9");
        terms("21", "and 1 more for each of its poles", "bundle(30, 0) -> 0, build(0, 4, 0) -> 0, build(0, 8, 0) -> 1",
            "strength(0, false) -> 16, strength(1, false) -> 20, strength(0, true) -> 16, strength(1, true) -> 20");
        terms("21", "less a fifth of the age of its tie",
            "bundle(8, 0) -> 0, build(0, 8, 0) -> 0, day(4) -> 0, strength(0, false) -> 20, strength(0, true) -> 20",
            "day(1) -> 0, strength(0, false) -> 19, strength(0, true) -> 19, day(4) -> 0, strength(0, true) -> 19",
            "day(1) -> 0, strength(0, false) -> 18, strength(0, true) -> 18, day(14) -> 0, strength(0, false) -> 16",
            "day(1) -> 0, strength(0, false) -> 15, strength(0, true) -> 15");
        terms("21", "and less the half of its own number",
            "strips(99) -> 159, bundle(30, 0) -> 0, bundle(30, 0) -> 1, 7 times build(0, 4, 0) -> *",
            "3 times build(1, 4, 0) -> *, strength(0, false) -> 16, strength(1, false) -> 16, strength(2, false) -> 15",
            "strength(3, false) -> 15, strength(8, false) -> 12, strength(9, false) -> 12, strength(1, true) -> 16",
            "strength(2, true) -> 15, strength(8, true) -> 12, strength(9, true) -> 12");
        terms("21", "but by at least 0",
            "bundle(30, 60) -> 0, build(0, 4, 0) -> 0, day(29) -> 0, strength(0, false) -> 1, day(1) -> 0",
            "strength(0, false) -> 0, day(5) -> 0, strength(0, false) -> 0, strength(0, true) -> 0, day(30) -> 0",
            "strength(0, false) -> 0");
        terms("22 and 33", "but by at least 0",
            "bundle(30, 60) -> 0, build(0, 8, 0) -> 0, build(0, 4, 0) -> 1, day(30) -> 0, strength(0, false) -> 4",
            "weakest() -> 1, meanStrength() -> 2.0, day(15) -> 0, strength(0, false) -> 1, meanStrength() -> 0.5",
            "day(15) -> 0, weakest() -> 0, meanStrength() -> 0.0");
    }

    private static void strips() {
        terms("5", "There are from 0 to 200 strips, 60 at first.", "account(9) -> 60, strips(99) -> 159",
            "strips(41) -> 200, strips(1) -> 200, strips(99) -> 200, account(9) -> 200");
        terms("6", "There are from 0 to 200 strips",
            "bundle(30, 0) -> 0, 3 times build(0, 8, 0) -> *, build(0, 6, 0) -> 3, account(9) -> 0, bundle(4, 0) -> 1",
            "build(1, 4, 0) -> REFUSED, account(9) -> 0, strips(1) -> 1");
        terms("2", "60 at first", "strips(9) -> 69, clear() -> 0, account(9) -> 60");
    }

    private static void crews() {
        terms("8", "At most 5 crews are kept, numbered from 0",
            "crew(4) -> 0, 3 times crew(1) -> *, crew(3) -> 4, account(7) -> 5, look, crew(1) -> REFUSED, same",
            "crewOf(0, 0) -> 4, crewOf(4, 0) -> 3, crewOf(5, 0) -> NONE");
        terms("8", "each with a skill from 1 to 4",
            "look, crew(0) -> BAD, crew(5) -> BAD, crew(-1) -> BAD, crew(-2147483648) -> BAD, crew(2147483647) -> BAD",
            "all same, crew(1) -> 0, crew(4) -> 1, crewOf(0, 0) -> 1, crewOf(1, 0) -> 4");
        terms("8", "on the ground, as at first, or on a storey",
            "bundle(30, 0) -> 0, build(0, 4, 0) -> 0, crew(1) -> 0, crewOf(0, 1) -> NOTHING, account(8) -> 0",
            "storeyOf(0, 6) -> 0, up(0, 0) -> 1, crewOf(0, 1) -> 0, account(8) -> 1, clear() -> 0, crew(1) -> 0",
            "crewOf(0, 1) -> NOTHING, account(8) -> 0");
        terms("8, of a crew in place of one that was undone", "on the ground, as at first",
            "bundle(30, 0) -> 0, build(0, 4, 5) -> 0, crew(3) -> 0, up(0, 0) -> 1, lift(0, 1) -> 19, day(1) -> 0",
            "crewOf(0, 3) -> 3, 4 times undo() -> *, account(7) -> 0, crew(2) -> 0, crewOf(0, 1) -> NOTHING",
            "crewOf(0, 3) -> 0");
        terms("9", "A crew can go up to a storey with a signal below 3",
            "bundle(30, 0) -> 0, build(0, 4, 0) -> 0, crew(1) -> 0, signal(2) -> 0, up(0, 0) -> 1, signal(3) -> 2",
            "up(0, 0) -> REFUSED, signal(10) -> 3, up(0, 0) -> REFUSED, signal(0) -> 10, up(0, 0) -> 1");
        terms("9", "if neither the tie of that storey nor one below it is old",
            "bundle(30, 0) -> 0, build(0, 4, 0) -> 0, day(1) -> 0, build(0, 4, 0) -> 1, crew(1) -> 0, day(19) -> 0",
            "up(0, 1) -> 1, up(0, 0) -> 1, down(0) -> 0, day(1) -> 0, storeyOf(0, 2) -> 21, storeyOf(1, 2) -> 20",
            "up(0, 0) -> REFUSED, up(0, 1) -> REFUSED, tie(0) -> 21, up(0, 1) -> 1, down(0) -> 1, day(1) -> 0",
            "up(0, 1) -> REFUSED, up(0, 0) -> 1");
        terms("9", "and the storey is not shut",
            "bundle(30, 0) -> 0, build(0, 4, 0) -> 0, crew(1) -> 0, inspector(9) -> 0, day(12) -> 0, up(0, 0) -> 1",
            "inspect(0, 0) -> 1, up(0, 0) -> REFUSED, tie(0) -> 12, up(0, 0) -> 1");
        terms("9", "several crews can be on one storey",
            "bundle(30, 0) -> 0, build(0, 4, 0) -> 0, 5 times crew(1) -> *, up(4, 0) -> 1, up(0, 0) -> 2, up(1, 0) -> 3",
            "up(3, 0) -> 4, up(2, 0) -> 5, account(8) -> 5, storeyOf(0, 6) -> 31");
    }

    private static void lift() {
        terms("11", "On each day the lift has 20 turns.",
            "account(10) -> 20, bundle(30, 0) -> 0, build(0, 4, 0) -> 0, build(0, 4, 0) -> 1, lift(1, 9) -> 2",
            "lift(0, 2) -> 0, look, lift(0, 1) -> REFUSED, same, day(1) -> 0, account(10) -> 20, day(1) -> 0",
            "account(10) -> 20, lift(0, 7) -> 13, day(30) -> 0, account(10) -> 20");
        terms("11", "To bring a load up to a storey takes as many turns as its number, and 1 more.",
            "strips(99) -> 159, bundle(30, 0) -> 0, bundle(30, 0) -> 1, 7 times build(0, 4, 0) -> *",
            "3 times build(1, 4, 0) -> *, lift(0, 1) -> 19, lift(8, 1) -> 10, lift(9, 1) -> 0, day(1) -> 0",
            "lift(9, 2) -> 0, day(1) -> 0, lift(4, 4) -> 0, day(1) -> 0, lift(0, 8) -> 12, lift(1, 6) -> 0");
    }

    private static void signals() {
        terms("12", "The signal is from 0 to 10, 0 at first.",
            "account(1) -> 0, look, signal(-1) -> BAD, signal(11) -> BAD, signal(-2147483648) -> BAD",
            "signal(2147483647) -> BAD, all same, signal(10) -> 0, account(1) -> 10, signal(0) -> 10, account(1) -> 0");
        terms("12", "When it is set to 3 or more, all crews come down to the ground.",
            "bundle(30, 0) -> 0, 2 times build(0, 4, 0) -> *, 5 times crew(1) -> *, up(0, 0) -> 1, up(4, 1) -> 1",
            "signal(2) -> 0, account(8) -> 2, signal(3) -> 2, account(8) -> 0, crewOf(0, 1) -> NOTHING",
            "crewOf(4, 1) -> NOTHING, signal(0) -> 3, account(8) -> 0, up(4, 0) -> 1, up(0, 1) -> 1, signal(10) -> 0",
            "account(8) -> 0, storeyOf(0, 6) -> 0, storeyOf(1, 6) -> 0");
    }

    private static void inspectors() {
        terms("13", "At most 3 inspectors are kept, numbered from 0",
            "inspector(7) -> 0, inspector(1) -> 1, inspector(2) -> 2, look, inspector(1) -> REFUSED, same",
            "account(12) -> 3, inspectorOf(0, 0) -> 7, inspectorOf(2, 0) -> 2, inspectorOf(3, 0) -> NONE");
        terms("13", "each with a nose from 1 to 9",
            "look, inspector(0) -> BAD, inspector(10) -> BAD, inspector(-2147483648) -> BAD, inspector(2147483647) -> BAD",
            "all same, inspector(1) -> 0, inspector(9) -> 1, inspectorOf(0, 0) -> 1, inspectorOf(1, 0) -> 9");
        String bad = "An inspector finds a storey bad if the age of its tie and the nose together are more than 20";
        terms("14", bad, "bundle(30, 0) -> 0, build(0, 4, 0) -> 0, inspector(9) -> 0, inspect(0, 0) -> 0, day(11) -> 0",
            "inspect(0, 0) -> 0, storeyOf(0, 5) -> 0, account(13) -> 0, day(1) -> 0, inspect(0, 0) -> 1");
        terms("14", bad, "bundle(30, 0) -> 0, build(0, 4, 0) -> 0, inspector(1) -> 0, day(19) -> 0, inspect(0, 0) -> 0",
            "day(1) -> 0, inspect(0, 0) -> 1, storeyOf(0, 5) -> 1");
        terms("14, of a tie that is as old as it can be", bad,
            "bundle(30, 0) -> 0, build(0, 4, 0) -> 0, inspector(9) -> 0, 4 times day(30) -> 0, storeyOf(0, 2) -> 99",
            "inspect(0, 0) -> 1");
        String shut = "then it is shut, if it was not, the inspector is the one who shut it";
        terms("14", shut, "bundle(30, 0) -> 0, 2 times build(0, 4, 0) -> *, inspector(2) -> 0, inspector(8) -> 1",
            "day(19) -> 0, storeyOf(0, 5) -> 0, inspect(1, 0) -> 1, storeyOf(0, 5) -> 1, storeyOf(1, 5) -> 0",
            "inspectorOf(1, 1) -> 1, inspectorOf(0, 1) -> 0, inspect(0, 0) -> 1, storeyOf(0, 5) -> 1",
            "inspectorOf(1, 1) -> 1, inspectorOf(0, 1) -> 0, inspect(0, 1) -> 1, inspectorOf(0, 1) -> 1");
        terms("14", "all crews on it come down",
            "bundle(30, 0) -> 0, 3 times build(0, 4, 0) -> *, 5 times crew(1) -> *, up(0, 1) -> 1, up(4, 1) -> 2",
            "up(1, 0) -> 1, up(2, 2) -> 1, inspector(9) -> 0, day(12) -> 0, inspect(0, 1) -> 1, storeyOf(1, 6) -> 0",
            "storeyOf(0, 6) -> 2, storeyOf(2, 6) -> 4, account(8) -> 2");
        terms("14", "and the fines are greater by the nose",
            "bundle(30, 0) -> 0, build(0, 4, 0) -> 0, inspector(1) -> 0, inspector(9) -> 1, day(11) -> 0",
            "inspect(1, 0) -> 0, account(13) -> 0, day(9) -> 0, inspect(0, 0) -> 1, account(13) -> 1, inspect(1, 0) -> 1",
            "account(13) -> 10");
        terms("7 and 14", "A storey is shut until it is tied anew",
            "bundle(30, 0) -> 0, 2 times build(0, 4, 0) -> *, inspector(9) -> 0, day(12) -> 0, inspect(0, 0) -> 1",
            "inspect(0, 1) -> 1, signal(9) -> 0, signal(0) -> 9, day(30) -> 0, storeyOf(0, 5) -> 1, storeyOf(1, 5) -> 1",
            "tie(0) -> 42, storeyOf(0, 5) -> 0, storeyOf(1, 5) -> 1, account(5) -> 1");
        terms("7", "for which 2 strips are needed for each of its poles",
            "bundle(30, 0) -> 0, 3 times build(0, 8, 0) -> *, build(0, 4, 0) -> 3, day(1) -> 0, look, tie(3) -> REFUSED",
            "same, strips(3) -> 7, look, tie(3) -> REFUSED, same, strips(1) -> 8, tie(3) -> 1, account(9) -> 0",
            "strips(99) -> 99, tie(0) -> 1, account(9) -> 83");
        terms("7", "its tie is 0 days old then",
            "bundle(30, 0) -> 0, 2 times build(0, 4, 0) -> *, day(5) -> 0, tie(1) -> 5, storeyOf(1, 2) -> 0",
            "storeyOf(0, 2) -> 5, day(1) -> 0, storeyOf(1, 2) -> 1, storeyOf(0, 2) -> 6");
    }

    private static void orderOfADay() {
        String words = "A day passes: the following happens in this order";
        terms("15, of work before the tie gets old", words,
            "bundle(30, 0) -> 0, build(0, 4, 9) -> 0, crew(2) -> 0, up(0, 0) -> 1, day(20) -> 0, lift(0, 2) -> 18",
            "storeyOf(0, 2) -> 20, day(1) -> 0, storeyOf(0, 2) -> 21, storeyOf(0, 3) -> 7, storeyOf(0, 4) -> 1",
            "day(1) -> 0, storeyOf(0, 3) -> 7, storeyOf(0, 4) -> 1");
        terms("15, of ties that get older before a storey falls", words,
            "bundle(30, 60) -> 0, build(0, 6, 0) -> 0, day(1) -> 0, strength(0, false) -> 8, signal(8) -> 0, day(1) -> 1");
        terms("15, of a storey that falls before poles get older", words,
            "bundle(30, 53) -> 0, day(6) -> 0, build(0, 4, 0) -> 0, strength(0, false) -> 8, signal(8) -> 0, day(1) -> 0",
            "storeyOf(0, 1) -> 54, strength(0, false) -> 7, day(1) -> 1");
    }

    private static void workOfADay() {
        terms("15", "each crew on a storey, in the order of the numbers, works",
            "bundle(30, 0) -> 0, build(0, 4, 9) -> 0, crew(1) -> 0, crew(2) -> 1, crew(4) -> 2, crew(3) -> 3",
            "up(3, 0) -> 1, up(2, 0) -> 2, up(1, 0) -> 3, lift(0, 2) -> 18, day(1) -> 0, crewOf(0, 3) -> 0",
            "crewOf(1, 3) -> 2, crewOf(2, 3) -> 4, crewOf(3, 3) -> 0, storeyOf(0, 3) -> 3, storeyOf(0, 4) -> 0");
        String tie = "if no tie of that storey or below it is old";
        String start = "bundle(30, 0) -> 0, 3 times build(0, 4, 9) -> *, crew(1) -> 0, up(0, 1) -> 1, lift(1, 1) -> 18";
        terms("15, of the storey's own tie", tie, start, "day(20) -> 0, storeyOf(1, 3) -> 8, tie(0) -> 20, lift(1, 2) -> 16",
            "day(1) -> 0, storeyOf(1, 2) -> 21, storeyOf(1, 3) -> 7, day(1) -> 0, storeyOf(1, 3) -> 7, storeyOf(1, 4) -> 1",
            "tie(1) -> 22, day(1) -> 0, storeyOf(2, 2) -> 23, storeyOf(1, 3) -> 6, storeyOf(1, 4) -> 0");
        terms("15, of a tie below", tie, start, "day(20) -> 0, storeyOf(1, 3) -> 8, tie(1) -> 20, day(1) -> 0",
            "storeyOf(0, 2) -> 21, lift(1, 1) -> 18, day(1) -> 0, storeyOf(1, 3) -> 8, storeyOf(1, 4) -> 1",
            "tie(0) -> 22, day(1) -> 0, storeyOf(1, 3) -> 7, storeyOf(1, 4) -> 0");
        terms("15", "if there is work",
            "bundle(30, 0) -> 0, build(0, 4, 0) -> 0, build(0, 4, 1) -> 1, crew(1) -> 0, crew(1) -> 1, up(0, 0) -> 1",
            "up(1, 1) -> 1, lift(0, 2) -> 18, lift(1, 2) -> 14, day(3) -> 0, storeyOf(0, 4) -> 2, storeyOf(1, 4) -> 1",
            "storeyOf(0, 3) -> 0, storeyOf(1, 3) -> 0, crewOf(0, 3) -> 0, crewOf(1, 3) -> 1, account(14) -> 1");
        terms("15", "and if there is a load",
            "bundle(30, 0) -> 0, build(0, 4, 9) -> 0, crew(1) -> 0, up(0, 0) -> 1, day(2) -> 0, storeyOf(0, 3) -> 9",
            "storeyOf(0, 4) -> 0, lift(0, 1) -> 19, day(2) -> 0, storeyOf(0, 3) -> 8, storeyOf(0, 4) -> 0");
        terms("15", "the work becomes less by the skill, but not below 0",
            "bundle(30, 0) -> 0, build(0, 4, 5) -> 0, build(0, 4, 4) -> 1, build(0, 4, 3) -> 2, 3 times crew(4) -> *",
            "up(0, 0) -> 1, up(1, 1) -> 1, up(2, 2) -> 1, lift(0, 1) -> 19, lift(1, 1) -> 17, lift(2, 1) -> 14",
            "day(1) -> 0, storeyOf(0, 3) -> 1, storeyOf(1, 3) -> 0, storeyOf(2, 3) -> 0, crewOf(0, 3) -> 4",
            "crewOf(1, 3) -> 4, crewOf(2, 3) -> 3, account(14) -> 11, work(false) -> 1, work(true) -> 1");
        terms("15", "and a load is gone",
            "bundle(30, 0) -> 0, build(0, 4, 9) -> 0, crew(4) -> 0, crew(1) -> 1, up(0, 0) -> 1, up(1, 0) -> 2",
            "lift(0, 9) -> 11, day(1) -> 0, storeyOf(0, 4) -> 7, down(1) -> 0, day(1) -> 0, storeyOf(0, 4) -> 6");
    }

    private static void tiesOfADay() {
        terms("15", "Second, each tie becomes a day older, and 3 days more if the signal is 8 or more",
            "bundle(30, 0) -> 0, 2 times build(0, 8, 0) -> *, day(1) -> 0, storeyOf(0, 2) -> 1, signal(7) -> 0, day(1) -> 0",
            "storeyOf(0, 2) -> 2, storeyOf(1, 2) -> 2, signal(8) -> 7, day(1) -> 0, storeyOf(0, 2) -> 6",
            "storeyOf(1, 2) -> 6, signal(10) -> 8, day(1) -> 0, storeyOf(0, 2) -> 10, storeyOf(1, 2) -> 10");
        terms("15", "up to 99",
            "bundle(30, 0) -> 0, build(0, 4, 0) -> 0, 3 times day(30) -> 0, day(8) -> 0, storeyOf(0, 2) -> 98, day(1) -> 0",
            "storeyOf(0, 2) -> 99, day(1) -> 0, storeyOf(0, 2) -> 99, day(30) -> 0, storeyOf(0, 2) -> 99, tie(0) -> 99");
    }

    private static void fallsOfADay() {
        String words = "Third, if the signal is 8 or more, the lowest storey that is strong by less than the signal falls";
        terms("15, of a signal of 7", words,
            "bundle(30, 60) -> 0, build(0, 4, 0) -> 0, strength(0, false) -> 6, signal(7) -> 0, day(1) -> 0",
            "account(4) -> 1, signal(8) -> 7, day(1) -> 1, account(4) -> 0");
        terms("15, of one just as strong as the signal", words,
            "bundle(30, 60) -> 0, build(0, 8, 0) -> 0, signal(10) -> 0, day(1) -> 0, strength(0, false) -> 10",
            "day(1) -> 1, account(15) -> 1");
        terms("15, of one just as strong as the signal", words,
            "bundle(30, 60) -> 0, build(0, 7, 0) -> 0, signal(9) -> 0, day(1) -> 0, strength(0, false) -> 9, day(1) -> 1");
        terms("15, of one just as strong as the signal", words,
            "bundle(30, 60) -> 0, build(0, 6, 0) -> 0, signal(8) -> 0, day(1) -> 0, strength(0, false) -> 8, day(1) -> 1");
        terms("15, of the lowest of several", words,
            "bundle(30, 0) -> 0, bundle(30, 60) -> 1, build(0, 8, 0) -> 0, build(1, 5, 0) -> 1, build(1, 4, 0) -> 2",
            "build(0, 8, 0) -> 3, signal(8) -> 0, day(1) -> 3, account(4) -> 1, storeyOf(0, 0) -> 8, account(16) -> 17");
        terms("15, of the lowest storey of all", words,
            "bundle(30, 0) -> 0, bundle(30, 60) -> 1, build(1, 4, 0) -> 0, build(0, 8, 0) -> 1, build(0, 8, 0) -> 2",
            "signal(8) -> 0, day(1) -> 3, account(4) -> 0, account(15) -> 3, account(16) -> 20, day(30) -> 0");
        terms("15", "if there is one, with all above it",
            "signal(10) -> 0, day(30) -> 0, signal(0) -> 10, bundle(30, 0) -> 0, build(0, 8, 0) -> 0, build(0, 8, 0) -> 1",
            "signal(10) -> 0, day(1) -> 0, account(4) -> 2, account(15) -> 0, wouldFall(10) -> NOTHING");
        terms("15", "if there is one, with all above it",
            "bundle(30, 0) -> 0, bundle(30, 60) -> 1, build(0, 8, 0) -> 0, build(1, 4, 0) -> 1, build(0, 8, 0) -> 2",
            "build(0, 8, 0) -> 3, strength(3, false) -> 19, signal(8) -> 0, day(1) -> 3, account(4) -> 1, account(15) -> 3");
        terms("15, of a storm that goes on", "if there is one, with all above it", "bundle(30, 0) -> 0",
            "bundle(30, 60) -> 1, build(0, 8, 0) -> 0, build(1, 4, 3) -> 1, signal(8) -> 0, day(1) -> 1, day(1) -> 0",
            "account(15) -> 1, account(16) -> 4, signal(0) -> 8, build(0, 8, 0) -> 1, signal(8) -> 0, day(1) -> 0");
        terms("15", "their poles, work and loads are lost",
            "bundle(30, 0) -> 0, bundle(30, 60) -> 1, build(0, 8, 5) -> 0, build(1, 5, 6) -> 1, build(0, 4, 7) -> 2",
            "lift(0, 1) -> 19, lift(1, 2) -> 15, lift(2, 3) -> 6, account(3) -> 43, account(11) -> 6, work(false) -> 18",
            "signal(8) -> 0, day(1) -> 2, account(3) -> 43, bundleOf(0, false) -> 18, bundleOf(1, false) -> 25",
            "account(16) -> 9, account(11) -> 1, work(false) -> 5, work(true) -> 5, account(9) -> 26");
    }

    private static void endOfADay() {
        terms("15", "the day, counted from 0, becomes 1 more",
            "account(0) -> 0, day(1) -> 0, account(0) -> 1, day(1) -> 0, account(0) -> 2, day(30) -> 0, account(0) -> 32");
        terms("15", "the lift has its turns again",
            "bundle(30, 0) -> 0, build(0, 4, 0) -> 0, lift(0, 9) -> 11, day(1) -> 0, account(10) -> 20, build(0, 4, 0) -> 1",
            "lift(1, 9) -> 2, signal(9) -> 0, day(1) -> 0, account(10) -> 20");
    }

    private static void weeks() {
        terms("15", "on each day that can be divided by 7",
            "bundle(30, 0) -> 0, build(0, 4, 0) -> 0, day(1) -> 0, bundleOf(0, true) -> 0, day(5) -> 0",
            "bundleOf(0, true) -> 0, storeyOf(0, 1) -> 0, day(1) -> 0, account(0) -> 7, bundleOf(0, true) -> 1",
            "storeyOf(0, 1) -> 1, day(6) -> 0, bundleOf(0, true) -> 1, day(1) -> 0, bundleOf(0, true) -> 2, day(28) -> 0",
            "account(0) -> 42, bundleOf(0, true) -> 6, storeyOf(0, 1) -> 6");
        terms("15, of poles that come just before", "on each day that can be divided by 7",
            "day(6) -> 0, bundle(30, 4) -> 0, day(1) -> 0, bundleOf(0, true) -> 5, bundle(30, 4) -> 1, day(6) -> 0",
            "bundleOf(1, true) -> 4, day(1) -> 0, bundleOf(1, true) -> 5, bundleOf(0, true) -> 6");
        terms("15", "all poles, also those in bundles, become a week older",
            "bundle(30, 1) -> 0, build(0, 4, 0) -> 0, build(0, 4, 0) -> 1, 7 times bundle(2, 3) -> *, day(7) -> 0",
            "storeyOf(0, 1) -> 2, storeyOf(1, 1) -> 2, bundleOf(0, true) -> 2, bundleOf(1, true) -> 4",
            "bundleOf(7, true) -> 4");
        terms("15", "become a week older, up to 60",
            "bundle(30, 59) -> 0, bundle(30, 60) -> 1, build(0, 4, 0) -> 0, build(1, 4, 0) -> 1, day(7) -> 0",
            "bundleOf(0, true) -> 60, bundleOf(1, true) -> 60, storeyOf(0, 1) -> 60, storeyOf(1, 1) -> 60, day(7) -> 0",
            "bundleOf(0, true) -> 60, storeyOf(0, 1) -> 60, storeyOf(1, 1) -> 60");
    }
}
