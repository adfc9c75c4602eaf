/** The "Terms" of texts, reasons, changes and codes, their details, and the constants. */
final class TextSentences {
    private TextSentences() {
    }

    static void hold() {
        input();
        forms();
        faultsOfForms();
        orders();
        faultPositions();
        reasonsOfMany();
        reasonsOfPlaces();
        reasonsBehind();
        reasonsInOrder();
        changes();
        changesKept();
        whatStays();
        codes();
        codesOfScripts();
        codesInOrder();
        details();
        constants();
    }

    private static void terms(String promises, String words, String... calls) {
        Sentence.holds("Terms, for promise " + promises, words, calls);
    }

    private static void taken(String words, String text, int orders) {
        terms("16, text " + text, words, "type \"" + text + "\" -> " + text.length(), "script() -> " + orders,
            "account(17) -> 0, fault() -> NOTHING");
    }

    /** No order of it can be carried out, but it is a text. */
    private static void read(String words, String text) {
        terms("16, text " + text, words, "type \"" + text + "\" -> " + text.length(), "script() -> REFUSED",
            "reason(0, false) -> 12, reason(0, true) -> 0, fault() -> NOTHING");
    }

    private static void faulty(String words, String text, int place) {
        terms("16 and 17, text " + text, words,
            "signal(1) -> 0, type \"" + text + "\" -> " + (text.isEmpty() ? 0 : text.length()),
            "script() -> BAD, fault() -> " + place + ", account(17) -> 0, account(1) -> 1, account(18) -> 1",
            "reason(0, false) -> NOTHING");
    }

    private static void input() {
        terms("3", "The input has at most 60 characters",
            "59 times append('g') -> *, account(17) -> 59, append('g') -> 60, look, append('g') -> BAD",
            "append(127) -> BAD, all same, account(17) -> 60");
        terms("3", "with codes from 32 to 126",
            "look, append(31) -> BAD, append(127) -> BAD, append(0) -> BAD, append(10) -> BAD, append(288) -> BAD",
            "append(65535) -> BAD, append(32768) -> BAD, all same, append(32) -> 1, append(126) -> 2, account(17) -> 2");
    }

    private static void forms() {
        String script = "`script = order { \";\" order`}";
        taken(script, "g1", 1);
        taken(script, "g1;g2", 2);
        read("Its grammar is as follows, with terminals in quotes", "b0*4:0;t0;u0@0;d0;l0*1;g1;i0@0;n1");
        taken("where braces mean repetition", "g1;g2;g1", 3);
        taken("where braces mean repetition", "g0;g0;g0;g0;g0;g0;g0;g0;g0;g0;g0;g0;g0;g0;g0;g0;g0;g0;g0;g00", 20);
        taken("brackets an optional part", "n1", 1);
        taken("brackets an optional part", "n10", 1);
        taken("`number = digit [ digit ]`", "g0", 1);
        taken("`number = digit [ digit ]`", "n9", 1);
        taken("`number = digit [ digit ]`", "g00", 1);
        taken("`number = digit [ digit ]`", "g09", 1);
        taken("`number = digit [ digit ]`", "n30", 1);
        read("`number = digit [ digit ]`", "n99");
        read("\"b\" digit \"*\" digit \":\" number", "b0*0:0");
        read("\"b\" digit \"*\" digit \":\" number", "b9*9:99");
        read("\"t\" digit", "t0");
        read("\"t\" digit", "t9");
        read("\"u\" digit \"@\" digit", "u0@0");
        read("\"u\" digit \"@\" digit", "u9@9");
        read("\"d\" digit", "d0");
        read("\"d\" digit", "d9");
        read("\"l\" digit \"*\" digit", "l0*0");
        read("\"l\" digit \"*\" digit", "l9*9");
        read("\"g\" number", "g99");
        read("\"i\" digit \"@\" digit", "i0@0");
        read("\"i\" digit \"@\" digit", "i9@9");
        read("\"n\" number", "n0");
    }

    private static void faultsOfForms() {
        String script = "`script = order { \";\" order`}";
        faulty(script, "g1;", 3);
        faulty(script, ";g1", 0);
        faulty(script, "g1;;g1", 3);
        faulty(script, "g1g2", 2);
        faulty(script, "g1,g2", 2);
        faulty(script, "g1; g2", 3);
        faulty(script, "g0;g0;g0;g0;g0;g0;g0;g0;g0;g0;g0;g0;g0;g0;g0;g0;g0;g0;g0;g0;", 60);
        String order = "`order = \"b\" digit";
        faulty(order, "B1*4:0", 0);
        faulty(order, "x", 0);
        faulty(order, "1", 0);
        faulty(order, "a0", 0);
        faulty(order, "c0", 0);
        faulty(order, "b/*4:0", 1);
        faulty(order, "b:*4:0", 1);
        faulty(order, "b12*4:0", 2);
        faulty(order, "b1+4:0", 2);
        faulty(order, "b1*:", 3);
        faulty(order, "b1*44:0", 4);
        faulty(order, "b1*4;0", 4);
        faulty(order, "b1*4:;", 5);
        faulty(order, "b1*4:100", 7);
        faulty("\"t\" digit", "t/", 1);
        faulty("\"t\" digit", "t:", 1);
        faulty("\"t\" digit", "t10", 2);
        faulty("\"u\" digit \"@\" digit", "u@0", 1);
        faulty("\"u\" digit \"@\" digit", "u1*0", 2);
        faulty("\"u\" digit \"@\" digit", "u1@;", 3);
        faulty("\"u\" digit \"@\" digit", "u1@10", 4);
        faulty("\"d\" digit", "d;", 1);
        faulty("\"d\" digit", "d00", 2);
        faulty("\"l\" digit \"*\" digit", "l*1", 1);
        faulty("\"l\" digit \"*\" digit", "l1@1", 2);
        faulty("\"l\" digit \"*\" digit", "l1*10", 4);
        faulty("\"g\" number", "g-1", 1);
        faulty("\"i\" digit \"@\" digit", "i*", 1);
        faulty("\"i\" digit \"@\" digit", "i1*1", 2);
        faulty("\"i\" digit \"@\" digit", "i1@11", 4);
        faulty("\"n\" number", "n ", 1);
        faulty("`number = digit [ digit ]`", "g/", 1);
        faulty("`number = digit [ digit ]`", "g:", 1);
        faulty("`number = digit [ digit ]`", "g1/", 2);
        faulty("`number = digit [ digit ]`", "g1:", 2);
        faulty("`number = digit [ digit ]`", "g000", 3);
    }

    private static void orders() {
        terms("16", "b, a storey is built of a bundle, with so many poles and so much work",
            "bundle(9, 0) -> 0, bundle(20, 6) -> 1, type \"b1*4:0;b1*8:40\" -> 14, script() -> 2, storeyOf(0, 0) -> 4",
            "storeyOf(0, 1) -> 6, storeyOf(0, 3) -> 0, storeyOf(1, 0) -> 8, storeyOf(1, 3) -> 40, bundleOf(0, false) -> 9",
            "type \"b0*3:0\" -> 6, script() -> REFUSED, type \"b0*9:0\" -> 6, script() -> REFUSED, type \"b0*4:41\" -> 7",
            "script() -> REFUSED, reason(1, false) -> NOTHING, type \"b2*4:0\" -> 6, script() -> REFUSED");
        terms("16", "t, a storey is tied anew",
            "bundle(20, 0) -> 0, 2 times build(0, 4, 0) -> *, day(3) -> 0, type \"t1\" -> 2, script() -> 1",
            "storeyOf(0, 2) -> 3, storeyOf(1, 2) -> 0, account(9) -> 36");
        terms("16", "u, a crew goes up to a storey",
            "bundle(20, 0) -> 0, 2 times build(0, 4, 0) -> *, 3 times crew(1) -> *, type \"u2@1\" -> 4, script() -> 1",
            "crewOf(2, 1) -> 1, crewOf(1, 1) -> NOTHING");
        terms("16", "d, a crew comes down",
            "bundle(20, 0) -> 0, build(0, 4, 0) -> 0, crew(1) -> 0, crew(1) -> 1, up(0, 0) -> 1, up(1, 0) -> 2",
            "type \"d1\" -> 2, script() -> 1, crewOf(0, 1) -> 0, crewOf(1, 1) -> NOTHING");
        terms("16", "l, so many loads are brought up to a storey", "bundle(20, 0) -> 0, 2 times build(0, 4, 0) -> *",
            "type \"l1*9\" -> 4, script() -> 1, storeyOf(1, 4) -> 9, account(10) -> 2, type \"l0*1\" -> 4, script() -> 1",
            "storeyOf(0, 4) -> 1, type \"l0*0\" -> 4, script() -> REFUSED");
        terms("16", "g, the signal is set", "type \"g10\" -> 3, script() -> 1, account(1) -> 10, type \"g0\" -> 2",
            "script() -> 1, account(1) -> 0, type \"g11\" -> 3, script() -> REFUSED, account(1) -> 0",
            "reason(1, false) -> NOTHING");
        terms("16", "i, an inspector looks at a storey",
            "bundle(20, 0) -> 0, 2 times build(0, 4, 0) -> *, inspector(1) -> 0, inspector(9) -> 1, day(12) -> 0",
            "type \"i1@0\" -> 4, script() -> 1, storeyOf(0, 5) -> 1, storeyOf(1, 5) -> 0, inspectorOf(1, 2) -> 1",
            "type \"i0@1\" -> 4, script() -> 1, storeyOf(1, 5) -> 0, inspectorOf(0, 2) -> 0");
        terms("16", "n, days pass.", "type \"n1\" -> 2, script() -> 1, account(0) -> 1, type \"n30\" -> 3, script() -> 1",
            "account(0) -> 31, type \"n31\" -> 3, script() -> REFUSED, type \"n00\" -> 3, script() -> REFUSED",
            "account(0) -> 31");
    }

    private static void faultPositions() {
        String first = "The fault position of a text is the index of its first character that cannot continue such a text";
        faulty(first, "?", 0);
        faulty(first, "g1;t0;q", 6);
        faulty(first, "b0*4:10;u0@0;d0x", 15);
        faulty(first, "ttt;;;", 1);
        faulty(first, "g0;g0;g0;g0;g0;g0;g0;g0;g0;g0;g0;g0;g0;g0;g0;g0;g0;g0;g0;g0 ", 59);
        String early = "or its length if it ends too early";
        faulty(early, "", 0);
        faulty(early, "b", 1);
        faulty(early, "b0", 2);
        faulty(early, "b0*", 3);
        faulty(early, "b0*4", 4);
        faulty(early, "b0*4:", 5);
        faulty(early, "t", 1);
        faulty(early, "u", 1);
        faulty(early, "u0", 2);
        faulty(early, "u0@", 3);
        faulty(early, "d", 1);
        faulty(early, "l", 1);
        faulty(early, "l0", 2);
        faulty(early, "l0*", 3);
        faulty(early, "g", 1);
        faulty(early, "i", 1);
        faulty(early, "i0", 2);
        faulty(early, "i0@", 3);
        faulty(early, "n", 1);
        faulty(early, "n1;", 3);
        faulty(early, "g0;g0;g0;g0;g0;g0;g0;g0;g0;g0;g0;g0;g0;g0;g0;g0;g0;g00;g00;g", 60);
    }

    private static void reasonsOfMany() {
        String full = "1, there are as many as there can be: this number";
        terms("4, of bundles", full, "8 times bundle(1, 0) -> *, bundle(1, 0) -> REFUSED, reason(0, false) -> 1",
            "reason(0, true) -> 8, reason(1, false) -> NOTHING");
        terms("6, of storeys", full, "strips(99) -> *, bundle(30, 0) -> 0, bundle(30, 0) -> 1, 7 times build(0, 4, 0) -> *",
            "3 times build(1, 4, 0) -> *, build(1, 4, 0) -> REFUSED, reason(0, false) -> 1, reason(0, true) -> 10");
        terms("8, of crews", full, "5 times crew(1) -> *, crew(1) -> REFUSED, reason(0, false) -> 1, reason(0, true) -> 5");
        terms("13, of inspectors", full, "3 times inspector(1) -> *, inspector(1) -> REFUSED, reason(0, false) -> 1",
            "reason(0, true) -> 3");
        terms("6", "2, the bundle has too few poles: how many there are",
            "bundle(7, 0) -> 0, build(0, 8, 0) -> REFUSED, reason(0, false) -> 2, reason(0, true) -> 7, build(0, 7, 0) -> 0",
            "build(0, 4, 0) -> REFUSED, reason(0, false) -> 2, reason(0, true) -> 0, bundle(3, 0) -> 1",
            "build(1, 4, 0) -> REFUSED, reason(0, true) -> 3");
        terms("6", "3, there are too few strips: how many are missing",
            "bundle(30, 0) -> 0, bundle(30, 0) -> 1, 3 times build(0, 8, 0) -> *, build(0, 6, 0) -> 3",
            "build(1, 8, 0) -> REFUSED, reason(0, false) -> 3, reason(0, true) -> 16, strips(15) -> 15",
            "build(1, 8, 0) -> REFUSED, reason(0, true) -> 1, strips(1) -> 16, build(1, 8, 0) -> 4");
        terms("7", "3, there are too few strips: how many are missing",
            "bundle(30, 0) -> 0, 3 times build(0, 8, 0) -> *, build(0, 6, 0) -> 3, day(1) -> 0, tie(0) -> REFUSED",
            "reason(0, false) -> 3, reason(0, true) -> 16, tie(3) -> REFUSED, reason(0, true) -> 12, strips(11) -> 11",
            "tie(3) -> REFUSED, reason(0, true) -> 1, strips(1) -> 12, tie(3) -> 1");
        String signal = "4, the signal is 3 or more: the signal";
        String start = "bundle(30, 0) -> 0, build(0, 4, 0) -> 0, crew(1) -> 0, inspector(9) -> 0, day(1) -> 0";
        terms("6", signal, start, "signal(3) -> 0, build(0, 4, 0) -> REFUSED, reason(0, false) -> 4, reason(0, true) -> 3",
            "signal(10) -> 3, build(0, 4, 0) -> REFUSED, reason(0, true) -> 10, signal(2) -> 10, build(0, 4, 0) -> 1");
        terms("7", signal, start, "signal(3) -> 0, tie(0) -> REFUSED, reason(0, false) -> 4, reason(0, true) -> 3",
            "signal(10) -> 3, tie(0) -> REFUSED, reason(0, true) -> 10, signal(2) -> 10, tie(0) -> 1");
        terms("9", signal, start, "signal(3) -> 0, up(0, 0) -> REFUSED, reason(0, false) -> 4, reason(0, true) -> 3",
            "signal(10) -> 3, up(0, 0) -> REFUSED, reason(0, true) -> 10, signal(2) -> 10, up(0, 0) -> 1");
        terms("11", signal, start, "signal(3) -> 0, lift(0, 1) -> REFUSED, reason(0, false) -> 4, reason(0, true) -> 3",
            "signal(10) -> 3, lift(0, 1) -> REFUSED, reason(0, true) -> 10, signal(2) -> 10, lift(0, 1) -> 19");
        terms("14", signal, start, "signal(3) -> 0, inspect(0, 0) -> REFUSED, reason(0, false) -> 4, reason(0, true) -> 3",
            "signal(10) -> 3, inspect(0, 0) -> REFUSED, reason(0, true) -> 10, signal(2) -> 10, inspect(0, 0) -> 0");
    }

    private static void reasonsOfPlaces() {
        terms("9", "5, a tie is old: the lowest storey whose tie is",
            "bundle(30, 0) -> 0, 4 times build(0, 4, 0) -> *, crew(1) -> 0, day(21) -> 0, up(0, 3) -> REFUSED",
            "reason(0, false) -> 5, reason(0, true) -> 0, tie(0) -> 21, up(0, 3) -> REFUSED, reason(0, true) -> 1",
            "tie(1) -> 21, up(0, 3) -> REFUSED, reason(0, true) -> 2, up(0, 2) -> REFUSED, reason(0, true) -> 2",
            "strips(99) -> *, tie(2) -> 21, up(0, 3) -> REFUSED, reason(0, true) -> 3, up(0, 2) -> 1");
        terms("9", "6, the storey is shut: the storey",
            "bundle(30, 0) -> 0, 2 times build(0, 4, 0) -> *, crew(1) -> 0, inspector(9) -> 0, day(20) -> 0",
            "inspect(0, 1) -> 1, up(0, 1) -> REFUSED, reason(0, false) -> 6, reason(0, true) -> 1, inspect(0, 0) -> 1",
            "up(0, 0) -> REFUSED, reason(0, false) -> 6, reason(0, true) -> 0");
        terms("9", "7, the crew is there already: where",
            "bundle(30, 0) -> 0, 3 times build(0, 4, 0) -> *, crew(1) -> 0, up(0, 2) -> 1, up(0, 2) -> REFUSED",
            "reason(0, false) -> 7, reason(0, true) -> 2, up(0, 0) -> 1, up(0, 0) -> REFUSED, reason(0, true) -> 0",
            "down(0) -> 0, up(0, 0) -> 1");
        terms("11", "8, the lift has too few turns: how many it has",
            "bundle(30, 0) -> 0, 3 times build(0, 4, 0) -> *, lift(2, 7) -> REFUSED, reason(0, false) -> 8",
            "reason(0, true) -> 20, lift(2, 6) -> 2, lift(2, 1) -> REFUSED, reason(0, true) -> 2, lift(1, 1) -> 0",
            "lift(0, 1) -> REFUSED, reason(0, false) -> 8, reason(0, true) -> 0");
        terms("11", "9, there would be more than 9 loads: how many there are",
            "bundle(30, 0) -> 0, build(0, 4, 0) -> 0, lift(0, 1) -> 19, lift(0, 9) -> REFUSED, reason(0, false) -> 9",
            "reason(0, true) -> 1, lift(0, 8) -> 11, lift(0, 1) -> REFUSED, reason(0, false) -> 9, reason(0, true) -> 9");
        terms("7", "10, the tie is 0 days old: the storey",
            "bundle(30, 0) -> 0, 2 times build(0, 4, 0) -> *, tie(1) -> REFUSED, reason(0, false) -> 10",
            "reason(0, true) -> 1, tie(0) -> REFUSED, reason(0, true) -> 0, day(1) -> 0, tie(0) -> 1, tie(0) -> REFUSED",
            "reason(0, false) -> 10, tie(1) -> 1");
        terms("10", "11, the crew is on the ground: the crew",
            "crew(1) -> 0, crew(1) -> 1, down(1) -> REFUSED, reason(0, false) -> 11, reason(0, true) -> 1",
            "down(0) -> REFUSED, reason(0, true) -> 0, reason(1, false) -> NOTHING");
        terms("16", "12, an order of a script would return a code: its number, from 0.",
            "type \"t0\" -> 2, script() -> REFUSED, reason(0, false) -> 12, reason(0, true) -> 0, type \"g1;t0;t0\" -> 8",
            "script() -> REFUSED, reason(0, true) -> 1, crew(1) -> 0, type \"g0;g0;d0\" -> 8, script() -> REFUSED",
            "reason(0, true) -> 2",
            "type \"g0;g0;g0;g0;g0;g0;g0;g0;g0;g0;g0;g0;g0;g0;g0;g0;g0;g0;g0;g11\" -> 60, script() -> REFUSED",
            "reason(0, false) -> 12, reason(0, true) -> 19");
    }

    private static void reasonsBehind() {
        terms("9 and 18", "Behind 6 stands 13, with the inspector who shut it.",
            "bundle(30, 0) -> 0, 2 times build(0, 4, 0) -> *, crew(1) -> 0, 3 times inspector(9) -> *, day(12) -> 0",
            "inspect(2, 0) -> 1, inspect(0, 1) -> 1, inspect(1, 0) -> 1, up(0, 0) -> REFUSED, reason(1, false) -> 13",
            "reason(1, true) -> 2, reason(2, false) -> NOTHING, up(0, 1) -> REFUSED, reason(1, true) -> 0");
        String words = "Behind 12 stands the reason of the order, with what is behind it, if it was refused.";
        terms("16 and 18", words, "crew(1) -> 0, type \"g1;d0\" -> 5, script() -> REFUSED, reason(0, false) -> 12",
            "reason(1, false) -> 11, reason(1, true) -> 0, reason(2, false) -> NOTHING, reason(2, true) -> NOTHING");
        terms("16 and 18, of a storey that is shut", words,
            "bundle(30, 0) -> 0, 2 times build(0, 4, 0) -> *, crew(1) -> 0, 2 times inspector(9) -> *",
            "type \"n12;i1@1;u0@1\" -> 13, script() -> REFUSED, reason(0, false) -> 12, reason(0, true) -> 2",
            "reason(1, false) -> 6, reason(1, true) -> 1, reason(2, false) -> 13, reason(2, true) -> 1",
            "reason(3, false) -> NOTHING, reason(3, true) -> NOTHING, storeyOf(1, 5) -> 0");
        terms("16 and 18, of an order that returns NONE", words,
            "crew(1) -> 0, down(0) -> REFUSED, type \"t0\" -> 2, script() -> REFUSED, reason(0, false) -> 12",
            "reason(1, false) -> NOTHING, reason(1, true) -> NOTHING");
        terms("16 and 18, of an order that returns BAD", words,
            "crew(1) -> 0, down(0) -> REFUSED, type \"g0;n0\" -> 5, script() -> REFUSED, reason(0, false) -> 12",
            "reason(0, true) -> 1, reason(1, false) -> NOTHING, reason(1, true) -> NOTHING");
    }

    private static void reasonsInOrder() {
        String words = "Something is refused for the first that applies of the reasons that its method names,"
            + " in the order in which it names them, with a detail";
        String ten = "strips(99) -> *, bundle(30, 0) -> 0, bundle(30, 0) -> 1, 6 times build(0, 4, 0) -> *, 3 times build(1, 8, 0) -> *";
        terms("6, 1 before 4, 2 and 3", words, ten, "bundle(3, 0) -> 2, build(0, 5, 0) -> 9, signal(3) -> 0",
            "build(2, 4, 0) -> REFUSED, reason(0, false) -> 1, signal(0) -> 3, build(2, 4, 0) -> REFUSED",
            "reason(0, false) -> 1");
        String few = "bundle(30, 0) -> 0, bundle(4, 0) -> 1, 3 times build(0, 8, 0) -> *, build(0, 6, 0) -> 3, bundle(3, 0) -> 2";
        terms("6, 4 before 2 and 3", words, few, "signal(3) -> 0, build(2, 4, 0) -> REFUSED, reason(0, false) -> 4",
            "build(1, 4, 0) -> REFUSED, reason(0, false) -> 4");
        terms("6, 2 before 3", words, few, "build(2, 4, 0) -> REFUSED, reason(0, false) -> 2, reason(0, true) -> 3",
            "build(1, 4, 0) -> REFUSED, reason(0, false) -> 3");
        terms("7, 4 before 10 and 3", words, few, "signal(3) -> 0, tie(0) -> REFUSED, reason(0, false) -> 4, day(1) -> 0",
            "tie(0) -> REFUSED, reason(0, false) -> 4");
        terms("7, 10 before 3", words, few, "tie(0) -> REFUSED, reason(0, false) -> 10, day(1) -> 0, tie(0) -> REFUSED",
            "reason(0, false) -> 3");
        String old = "bundle(30, 0) -> 0, build(0, 4, 0) -> 0, crew(1) -> 0, inspector(9) -> 0";
        terms("9, 7 before 5", words, old, "up(0, 0) -> 1, day(21) -> 0, up(0, 0) -> REFUSED, reason(0, false) -> 7");
        terms("9, 4 before 5 and 6", words, old, "day(20) -> 0, inspect(0, 0) -> 1, signal(3) -> 0, up(0, 0) -> REFUSED",
            "reason(0, false) -> 4, day(1) -> 0, up(0, 0) -> REFUSED, reason(0, false) -> 4");
        terms("9, 5 before 6", words, old, "day(20) -> 0, inspect(0, 0) -> 1, up(0, 0) -> REFUSED, reason(0, false) -> 6",
            "day(1) -> 0, up(0, 0) -> REFUSED, reason(0, false) -> 5, reason(1, false) -> NOTHING");
        terms("11, 4 before 9 and 8", words, old, "build(0, 4, 0) -> 1, lift(1, 9) -> 2, signal(3) -> 0",
            "lift(1, 9) -> REFUSED, reason(0, false) -> 4, lift(0, 9) -> REFUSED, reason(0, false) -> 4");
        terms("11, 9 before 8", words, old, "build(0, 4, 0) -> 1, lift(1, 9) -> 2, lift(1, 2) -> REFUSED",
            "reason(0, false) -> 9, lift(0, 3) -> REFUSED, reason(0, false) -> 8");
    }

    private static void changes() {
        String words = "The changes are the successful calls of bundle, strips, build, tie, crew, up, down, lift, signal, inspector,"
            + " inspect, day and script";
        terms("36", words, "bundle(30, 0) -> 0, account(18) -> 1, strips(1) -> 61, account(18) -> 2, build(0, 4, 9) -> 0",
            "account(18) -> 3, crew(1) -> 0, account(18) -> 4, up(0, 0) -> 1, account(18) -> 5, down(0) -> 0",
            "account(18) -> 6, lift(0, 1) -> 19, account(18) -> 7, signal(1) -> 0, account(18) -> 8, undo() -> 7",
            "account(1) -> 0, undo() -> 6, account(10) -> 20, undo() -> 5, crewOf(0, 1) -> 0, undo() -> 4",
            "crewOf(0, 1) -> NOTHING, undo() -> 3, account(7) -> 0, undo() -> 2, account(4) -> 0, undo() -> 1",
            "account(9) -> 60, undo() -> 0, account(2) -> 0");
        terms("36", words, "bundle(30, 0) -> 0, build(0, 4, 9) -> 0, save() -> 0, restore() -> 0, day(12) -> 0",
            "account(18) -> 1, inspector(9) -> 0, account(18) -> 2, inspect(0, 0) -> 1, account(18) -> 3, tie(0) -> 12",
            "account(18) -> 4, type \"g1;n2\" -> 5, script() -> 2, account(18) -> 5, undo() -> 4, account(0) -> 12",
            "account(1) -> 0, undo() -> 3, storeyOf(0, 2) -> 12, storeyOf(0, 5) -> 1, undo() -> 2, storeyOf(0, 5) -> 0",
            "account(13) -> 0, undo() -> 1, account(12) -> 0, undo() -> 0, account(0) -> 0, storeyOf(0, 2) -> 0");
        terms("36, of calls that are none", words, "append('t') -> 1, script() -> BAD, bundle(0, 0) -> BAD",
            "strips(0) -> BAD, build(0, 4, 0) -> NONE, tie(0) -> NONE, crew(0) -> BAD, up(0, 0) -> NONE, down(0) -> NONE",
            "lift(0, 1) -> NONE, signal(11) -> BAD, inspector(0) -> BAD, inspect(0, 0) -> NONE, day(0) -> BAD",
            "describe() -> 4, save() -> 0, undo() -> NOTHING, account(18) -> 0, crew(1) -> 0, down(0) -> REFUSED",
            "account(18) -> 1, type \"d0\" -> 2, script() -> REFUSED, account(18) -> 1, undo() -> 0, account(7) -> 0");
        terms("36", "also those by which nothing is different",
            "signal(0) -> 0, account(18) -> 1, type \"g0\" -> 2, script() -> 1, account(18) -> 2, bundle(30, 0) -> 0",
            "build(0, 4, 0) -> 0, inspector(9) -> 0, inspect(0, 0) -> 0, account(18) -> 6, undo() -> 5, account(12) -> 1",
            "undo() -> 4, account(12) -> 0");
        terms("36", "also those by which nothing is different",
            "strips(99) -> 159, strips(99) -> 200, strips(1) -> 200, account(18) -> 3, undo() -> 2, account(9) -> 200",
            "undo() -> 1, account(9) -> 159");
    }

    private static void changesKept() {
        String words = "The latest 8 can be undone.";
        terms("36, of just 8", words, "8 times strips(1) -> *, account(18) -> 8, 7 times undo() -> *, account(9) -> 61",
            "account(18) -> 1, undo() -> 0, account(9) -> 60, undo() -> NOTHING, account(9) -> 60");
        terms("36, of 9", words, "9 times strips(1) -> *, account(18) -> 8, 7 times undo() -> *, undo() -> 0",
            "account(9) -> 61, undo() -> NOTHING, account(9) -> 61");
        terms("36, of 100", words, "100 times strips(1) -> *, account(18) -> 8, undo() -> 7, account(9) -> 159",
            "7 times undo() -> *, account(9) -> 152, undo() -> NOTHING, account(9) -> 152");
        terms("36, of more after some are undone", words, "12 times strips(1) -> *, 3 times undo() -> *, account(9) -> 69",
            "account(18) -> 5, 2 times strips(10) -> *, account(18) -> 7, 2 times strips(10) -> *, account(18) -> 8",
            "4 times undo() -> *, account(9) -> 69, 4 times undo() -> *, account(9) -> 65, undo() -> NOTHING");
    }

    private static void whatStays() {
        String words = "The input, the fault position, the reasons and the written line are neither undone nor saved, and stay.";
        terms("36", words, "crew(1) -> 0, type \"x\" -> 1, script() -> BAD, down(0) -> REFUSED, describe() -> 4",
            "type \"g7\" -> 2, undo() -> 0, account(17) -> 2, fault() -> 0, reason(0, false) -> 11, reads \"bare\"",
            "script() -> 1, account(1) -> 7, undo() -> 0, account(1) -> 0, account(17) -> 0");
        terms("37 and 38", words, "type \"g5\" -> 2, save() -> 0, script() -> 1, type \"tx\" -> 2, script() -> BAD",
            "crew(1) -> 0, down(0) -> REFUSED, describe() -> 4, type \"n3\" -> 2, restore() -> 0, account(17) -> 2",
            "fault() -> 1, reason(0, false) -> 11, reads \"bare\", account(7) -> 0, script() -> 1, account(0) -> 3",
            "account(1) -> 0");
        terms("36 to 38", words, "crew(1) -> 0, type \"g1;g\" -> 4, script() -> BAD, down(0) -> REFUSED, describe() -> 4",
            "type \"g1\" -> 2, look, save() -> 0, all same, signal(2) -> 0, undo() -> 1, all same, strips(1) -> 61",
            "fault() -> 4, reason(0, false) -> 11, save() -> 0, clear() -> 0, restore() -> 0, fault() -> 4",
            "reason(0, false) -> 11, reads \"bare\", account(17) -> 2");
        terms("36", words, "bundle(9, 0) -> 0, build(0, 4, 3) -> 0, describe() -> 7, undo() -> 1, reads \"0:4p0w3\"",
            "undo() -> 0, reads \"0:4p0w3\", append('n') -> 1, append('9') -> 2, strips(1) -> 61, undo() -> 0",
            "account(17) -> 2, script() -> 1");
    }

    private static void codes() {
        String words = "A call that returns a code leaves everything as it was";
        String start = "bundle(30, 5) -> 0, bundle(3, 9) -> 1, build(0, 8, 9) -> 0, build(0, 8, 9) -> 1, build(0, 8, 9) -> 2";
        String more = "crew(2) -> 0, up(0, 1) -> 1, lift(1, 5) -> 10, inspector(4) -> 0, describe() -> 24, type \"g1\" -> 2, look";
        terms("1 to 15, of NONE and BAD", words, start, more, "append(31) -> BAD, bundle(31, 0) -> BAD, strips(0) -> BAD",
            "build(2, 4, 0) -> NONE, build(0, 3, 0) -> BAD, tie(3) -> NONE, crew(5) -> BAD, up(1, 0) -> NONE",
            "up(0, 3) -> NONE, down(1) -> NONE, lift(3, 1) -> NONE, lift(0, 10) -> BAD, signal(11) -> BAD",
            "inspector(10) -> BAD, inspect(1, 0) -> NONE, inspect(0, 3) -> NONE, day(31) -> BAD, written(24) -> NONE",
            "reason(-1, true) -> BAD, oldest(3) -> NONE, wouldFall(7) -> BAD, oldIn(3) -> NONE, doneIn(3) -> NONE",
            "storeyOf(0, 7) -> BAD, account(19) -> BAD, restore() -> NOTHING, all same");
        terms("4 to 14, of REFUSED", words, start, more, "build(1, 4, 0) -> REFUSED, same, tie(0) -> REFUSED",
            "up(0, 1) -> REFUSED, lift(1, 6) -> REFUSED, lift(2, 4) -> REFUSED, bundle(14, 0) -> 2, look",
            "build(2, 7, 0) -> REFUSED, same, script() -> 1, account(1) -> 1");
        terms("4 to 14, of REFUSED by the signal", words, start, more, "signal(3) -> 0, look, build(0, 4, 0) -> REFUSED",
            "tie(0) -> REFUSED, up(0, 0) -> REFUSED, down(0) -> REFUSED, lift(0, 1) -> REFUSED, inspect(0, 0) -> REFUSED",
            "same");
        terms("36 and 38, of NOTHING", words, "type \"g1\" -> 2, look, undo() -> NOTHING, restore() -> NOTHING",
            "weakest() -> NOTHING, highest() -> NOTHING, fault() -> NOTHING, all same, script() -> 1, account(1) -> 1");
        String eight = "8 times strips(1) -> *, crew(0) -> BAD, undo() -> 7, 6 times undo() -> *, account(9) -> 61, undo() -> 0";
        terms("36, of the first of 8 changes", words, eight, "account(9) -> 60, undo() -> NOTHING");
        terms("36, of the first of 8 changes", words, "3 times inspector(1) -> *, 5 times strips(1) -> *",
            "inspector(1) -> REFUSED, undo() -> 7, 6 times undo() -> *, account(12) -> 1, undo() -> 0, account(12) -> 0",
            "account(9) -> 60");
        terms("36, of the first of 8 changes", words, "8 times strips(1) -> *, type \"g1;g2;t0\" -> 8",
            "script() -> REFUSED, type \"g1;g2;t\" -> 7, script() -> BAD, tie(0) -> NONE, 8 times undo() -> *",
            "account(9) -> 60, account(1) -> 0");
        terms("36, of what can be undone and was saved", words,
            "strips(1) -> 61, save() -> 0, strips(2) -> 63, bundle(0, 0) -> BAD, tie(0) -> NONE, append(31) -> BAD",
            "undo() -> 1, account(9) -> 61, crew(0) -> BAD, undo() -> 0, account(9) -> 60, undo() -> NOTHING",
            "day(0) -> BAD, restore() -> 0, account(9) -> 61");
    }

    private static void codesOfScripts() {
        String words = "except that script empties the input, and that reasons and fault positions are kept";
        terms("16, of BAD", words, "crew(1) -> 0, down(0) -> REFUSED, look, type \"g1;n9;g2x\" -> 9, script() -> BAD, same",
            "account(17) -> 0, fault() -> 8, reason(0, false) -> 11");
        terms("16, of REFUSED", words, "bundle(30, 3) -> 0, build(0, 8, 9) -> 0, crew(1) -> 0, inspector(9) -> 0",
            "lift(0, 1) -> 19, look, type \"u0@0;n9;b0*4:1;l1*2;t0;d0;n12;i0@0;g9;n30;b0*9:1\" -> 48",
            "script() -> REFUSED, same, account(17) -> 0, fault() -> NOTHING, reason(0, false) -> 12",
            "reason(0, true) -> 10, undo() -> 4, account(10) -> 20");
        terms("16, of what is typed behind one that failed", words, "type \"n5;\" -> 3, script() -> BAD",
            "type \"n6\" -> 2, script() -> 1, account(0) -> 6, type \"t9\" -> 2, script() -> REFUSED, type \"n7\" -> 2",
            "script() -> 1, account(0) -> 13");
    }

    private static void codesInOrder() {
        String words = "If several codes apply, the one that is named first is returned.";
        terms("4", words, "8 times bundle(1, 0) -> *, bundle(31, 0) -> BAD, bundle(1, 61) -> BAD",
            "reason(0, false) -> NOTHING");
        terms("6", words, "build(0, 9, 41) -> NONE, signal(3) -> 0, build(0, 4, 0) -> NONE, bundle(30, 0) -> 0",
            "build(0, 9, 0) -> BAD, build(0, 4, 41) -> BAD, reason(0, false) -> NOTHING, build(1, 9, 0) -> NONE");
        terms("6, of ten storeys", words, "strips(99) -> *, bundle(30, 0) -> 0, bundle(30, 0) -> 1",
            "7 times build(0, 4, 0) -> *, 3 times build(1, 4, 0) -> *, build(0, 9, 0) -> BAD, build(0, 3, 0) -> BAD",
            "build(0, 4, 41) -> BAD, build(2, 9, 0) -> NONE, build(2, 4, 0) -> NONE, reason(0, false) -> NOTHING",
            "build(0, 4, 0) -> REFUSED");
        terms("6, of few poles and strips", words, "bundle(30, 0) -> 0, bundle(3, 0) -> 1, 3 times build(0, 8, 0) -> *",
            "build(0, 6, 0) -> 3, build(0, 9, 0) -> BAD, build(1, 4, -1) -> BAD, build(2, 4, 0) -> NONE",
            "reason(0, false) -> NOTHING");
        terms("7", words, "signal(3) -> 0, tie(0) -> NONE, reason(0, false) -> NOTHING");
        terms("8", words, "5 times crew(1) -> *, crew(5) -> BAD, crew(0) -> BAD, reason(0, false) -> NOTHING");
        terms("9", words, "crew(1) -> 0, signal(3) -> 0, up(0, 0) -> NONE, bundle(30, 0) -> 0, signal(0) -> 3",
            "build(0, 4, 0) -> 0, signal(3) -> 0, up(1, 0) -> NONE, up(0, 1) -> NONE, reason(0, false) -> NOTHING",
            "up(0, 0) -> REFUSED");
        terms("11", words, "lift(0, 0) -> NONE, bundle(30, 0) -> 0, build(0, 4, 0) -> 0, signal(3) -> 0, lift(0, 0) -> BAD",
            "lift(0, 10) -> BAD, lift(1, 10) -> NONE, lift(1, 1) -> NONE, reason(0, false) -> NOTHING");
        terms("13", words, "3 times inspector(1) -> *, inspector(10) -> BAD, inspector(0) -> BAD",
            "reason(0, false) -> NOTHING");
        terms("14", words, "inspector(1) -> 0, signal(3) -> 0, inspect(0, 0) -> NONE, inspect(1, 0) -> NONE, signal(0) -> 3",
            "bundle(9, 0) -> 0, build(0, 4, 0) -> 0, signal(3) -> 0, inspect(1, 0) -> NONE, reason(0, false) -> NOTHING");
        terms("16", words, "type \"t9;g1;\" -> 6, script() -> BAD, reason(0, false) -> NOTHING, fault() -> 6");
        terms("18", words, "reason(-1, false) -> BAD, reason(-1, true) -> BAD, reason(0, true) -> NOTHING");
        terms("20, 24 and 25", words, "storeyOf(0, 7) -> NONE, storeyOf(0, -1) -> NONE, crewOf(0, 4) -> NONE",
            "crewOf(-1, -1) -> NONE, inspectorOf(0, 3) -> NONE, inspectorOf(0, -1) -> NONE");
        terms("27", words, "wouldFall(7) -> BAD, wouldFall(11) -> BAD, wouldFall(10) -> NOTHING");
    }

    private static void details() {
        terms("14", "The fines are greater each time that a storey is found bad, also if it is shut already",
            "bundle(30, 0) -> 0, build(0, 4, 0) -> 0, inspector(9) -> 0, day(12) -> 0, inspect(0, 0) -> 1, account(13) -> 9",
            "inspect(0, 0) -> 1, account(13) -> 18, inspectorOf(0, 2) -> 2, account(5) -> 1, tie(0) -> 12",
            "inspect(0, 0) -> 0, account(13) -> 18");
        terms("14", "who shut it stays then", "bundle(30, 0) -> 0, build(0, 4, 0) -> 0, inspector(1) -> 0",
            "inspector(9) -> 1, crew(1) -> 0, day(20) -> 0, inspect(0, 0) -> 1, inspect(1, 0) -> 1, account(13) -> 10",
            "inspectorOf(0, 1) -> 1, inspectorOf(1, 1) -> 0, up(0, 0) -> REFUSED, reason(1, true) -> 0, tie(0) -> 20",
            "day(12) -> 0, inspect(1, 0) -> 1, inspectorOf(1, 1) -> 1, inspectorOf(0, 1) -> 0");
        String words = "Whether a crew would work on a day is told by the work and the loads that crews with lower numbers leave on it.";
        String start = "bundle(30, 0) -> 0, build(0, 4, 6) -> 0, crew(3) -> 0, crew(3) -> 1, crew(3) -> 2, up(2, 0) -> 1, up(1, 0) -> 2";
        terms("24, of loads", words, start, "up(0, 0) -> 3, lift(0, 1) -> 19, crewOf(0, 2) -> 1, crewOf(1, 2) -> 0",
            "crewOf(2, 2) -> 0, lift(0, 1) -> 18, crewOf(1, 2) -> 1, crewOf(2, 2) -> 0, down(0) -> 0, crewOf(0, 2) -> 0",
            "crewOf(2, 2) -> 1, storeyOf(0, 4) -> 2, storeyOf(0, 3) -> 6, account(14) -> 0");
        terms("24, of work", words, start, "up(0, 0) -> 3, lift(0, 9) -> 11, crewOf(0, 2) -> 1, crewOf(1, 2) -> 1",
            "crewOf(2, 2) -> 0, down(1) -> 0, crewOf(2, 2) -> 1, day(1) -> 0, crewOf(2, 3) -> 3, crewOf(2, 2) -> 0",
            "crewOf(0, 2) -> 0");
        terms("24, of crews on other storeys", words, start, "build(0, 4, 9) -> 1, up(0, 1) -> 1, lift(0, 1) -> 19",
            "lift(1, 1) -> 17, crewOf(0, 2) -> 1, crewOf(1, 2) -> 1, crewOf(2, 2) -> 0");
        terms("9", "A crew can go up to a storey whose lower ones are shut.", "bundle(30, 0) -> 0",
            "3 times build(0, 4, 0) -> *, crew(1) -> 0, inspector(9) -> 0, day(12) -> 0, inspect(0, 0) -> 1",
            "inspect(0, 1) -> 1, up(0, 2) -> 1, highest() -> 2, up(0, 1) -> REFUSED, up(0, 0) -> REFUSED");
        terms("24 and 35", "What a crew did is by how much the work became less.",
            "bundle(30, 0) -> 0, build(0, 4, 5) -> 0, crew(4) -> 0, up(0, 0) -> 1, lift(0, 3) -> 17, day(1) -> 0",
            "crewOf(0, 3) -> 4, account(14) -> 4, day(1) -> 0, crewOf(0, 3) -> 5, account(14) -> 5, day(1) -> 0",
            "crewOf(0, 3) -> 5, account(14) -> 5, storeyOf(0, 4) -> 1");
        terms("34 and 35", "The work of a storey that falls is not done by that.",
            "bundle(30, 60) -> 0, build(0, 4, 8) -> 0, signal(8) -> 0, day(1) -> 1, account(14) -> 0, doneShare() -> 0.0",
            "work(false) -> 0, work(true) -> 0");
    }

    private static void constants() {
        terms("6", "`NONE = -1`: There is no such number.", "build(0, 4, 0) -> -1, bundle(30, 0) -> 0, build(0, 4, 0) -> 0");
        terms("12", "`BAD = -2`: A number is out of range, or a text has a fault.", "signal(11) -> -2, script() -> -2");
        terms("10", "`REFUSED = -3`: It is refused for a reason.", "crew(1) -> 0, down(0) -> -3");
        terms("17", "`NOTHING = -4`: There is nothing of this kind.", "fault() -> -4, undo() -> -4, reason(0, false) -> -4");
        Notation.due("NONE", BambooTower.NONE, -1);
        Notation.due("BAD", BambooTower.BAD, -2);
        Notation.due("REFUSED", BambooTower.REFUSED, -3);
        Notation.due("NOTHING", BambooTower.NOTHING, -4);
    }
}
