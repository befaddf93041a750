import java.lang.reflect.InvocationTargetException;
import java.lang.reflect.Method;
import java.util.ArrayList;
import java.util.List;
import java.util.TreeMap;

/**
 * A test of its own for each sentence of the document that names a boundary case: the last value inside a bound and
 * the first one outside it, what is empty, full, wrapped around or refused. A test's name begins with "terms" or with
 * its promise's number; each such method is run.
 */
public final class BoundaryTests {
    private static final int NO_LOT = -5, UNFIT = -7, NOTHING = -11, OUTSIDE = -12, OTHER = -13, BELOW = -14;
    private static final int HOUSE = 0, SHY = 1, PICKY = 2, PROUD = 3, HIDDEN = 4, FOUNTAIN = 5;
    private static final int BYTES = 0, SHORTS = 1, INTS = 2;
    private static final int NONE = FirstColour.NONE, BAD = FirstColour.BAD;
    private static final int STATE = FirstColour.STATE, FULL = FirstColour.FULL;
    private static final int LEAST = Integer.MIN_VALUE, GREATEST = Integer.MAX_VALUE;
    private static String test = "";
    private static int wrong = 0;

    public static void main(String[] args) throws IllegalAccessException {
        TreeMap<String, Method> tests = new TreeMap<>();
        for (Method method : BoundaryTests.class.getDeclaredMethods()) {
            if (method.getName().startsWith("promise") || method.getName().startsWith("terms")) {
                tests.put(method.getName(), method);
            }
        }
        for (Method method : tests.values()) {
            test = method.getName();
            try {
                method.invoke(null);
            } catch (InvocationTargetException thrown) {
                wrong++;
                System.out.println(test + ": threw " + thrown.getCause());
            }
        }
        System.out.println(wrong == 0 ? tests.size() + " boundary tests hold" : wrong + " answers are not as due");
        if (wrong != 0) {
            System.exit(1);
        }
    }

    private static void due(String call, long got, long want) {
        if (got != want) {
            wrong++;
            System.out.println(test + ": " + call + " answered " + got + ", due is " + want);
        }
    }

    // ---- towns and helpers

    private interface Call {
        long on(FirstColour x);
    }

    private interface Scene {
        FirstColour made();
    }

    /** Lots of one kind, none beside another. */
    private static FirstColour apart(int lots, int kind) {
        FirstColour x = new FirstColour();
        for (int l = 0; l < lots; l++) {
            x.lot(kind, 0, 0);
        }
        return x;
    }

    /** Houses, each beside the next. */
    private static FirstColour path(int lots) {
        FirstColour x = new FirstColour();
        for (int l = 0; l < lots; l++) {
            x.lot(HOUSE, 0, l == 0 ? 0 : 1 << l - 1);
        }
        return x;
    }

    /** Lots of one kind, each beside all others. */
    private static FirstColour close(int lots, int kind) {
        FirstColour x = new FirstColour();
        for (int l = 0; l < lots; l++) {
            x.lot(kind, 0, (1 << l) - 1);
        }
        return x;
    }

    private static void buildAll(FirstColour x) {
        for (int l = 0; l < x.count(0); l++) {
            x.build(l);
        }
    }

    private static void tape(FirstColour x, String text) {
        for (int i = 0; i < text.length(); i += 5) {
            int[] b = new int[5];
            int n = Math.min(5, text.length() - i);
            for (int k = 0; k < n; k++) {
                b[k] = text.charAt(i + k);
            }
            x.feed(n, b[0], b[1], b[2], b[3], b[4]);
        }
    }

    private static int read(FirstColour x, String text) {
        tape(x, text);
        return x.text();
    }

    private static void enforce(FirstColour x, String text) {
        x.force(read(x, text));
    }

    private static void row(FirstColour x, int s, int sort, int... values) {
        x.sheet(s, sort, values.length);
        for (int i = 0; i < values.length; i++) {
            x.cell(s, i, values[i]);
        }
    }

    private static String blanks(int n) {
        return " ".repeat(n);
    }

    // ---- two towns made alike: what a call changed shows where they differ

    /** Lots of five kinds, some built; a second law; an image of an earlier time; the tape begun; three sheets. */
    private static FirstColour rich() {
        FirstColour x = new FirstColour();
        enforce(x, "worth colour;waits order;moves lot;");
        x.lot(HOUSE, 1, 0);
        x.lot(SHY, 2, 1);
        x.lot(PICKY, 3, 2);
        x.lot(PROUD, 4, 5);
        x.lot(HIDDEN, 5, 0);
        x.build(2);
        x.build(4);
        x.image();
        x.build(0);
        x.pull(4);
        x.paint(4, 0);
        row(x, 0, BYTES, 1, 3);
        row(x, 1, SHORTS, 0, 1, 0, 1, 0);
        row(x, 2, INTS, 1);
        tape(x, "worth 7;");
        return x;
    }

    /** Seven lots, six texts, a tape of 160 bytes. */
    private static FirstColour full() {
        FirstColour x = path(7);
        x.build(3);
        for (int t = 1; t < 6; t++) {
            enforce(x, "worth " + t + ";waits 0;moves 0;");
        }
        tape(x, blanks(160));
        return x;
    }

    private static final int PROBES = 8;

    /** All that can be asked of one part of a town; probes but the first spoil it. */
    private static List<Long> probe(int probe, FirstColour x) {
        List<Long> answers = new ArrayList<>();
        if (probe == 0) {
            askTown(x, answers);
        } else if (probe < 5) {
            readSheet(x, probe - 1, answers);
        } else if (probe == 5) {
            answers.add((long) read(x, "waits 8;moves 9;"));
            answers.add((long) x.force(2));
            answers.add((long) x.asks(0, 0, 0, 0));
            answers.add((long) x.asks(1, 0, 0, 0));
        } else {
            if (probe == 7) {
                answers.add((long) x.back());
                askTown(x, answers);
            }
            x.lot(HOUSE, 0, 0);
            x.paint((int) x.count(0) - 1, 0);
            answers.add((long) x.told(x.count(0) - 1, 4));
        }
        return answers;
    }

    private static void askTown(FirstColour x, List<Long> answers) {
        for (int what = 0; what < 7; what++) {
            answers.add((long) x.count(what));
        }
        for (int l = 0; l < 7; l++) {
            for (int what = 0; what < 5; what++) {
                answers.add((long) x.told(l, what));
            }
            for (int part = 0; part < 3; part++) {
                answers.add((long) x.asks(part, l, 2, 3));
            }
            answers.add((long) x.would(l));
        }
    }

    /** Its sort, its size and its numbers, as far as they are -1 .. 11. */
    private static void readSheet(FirstColour x, int s, List<Long> answers) {
        int sort = -1;
        for (int asked = 0; asked < 3; asked++) {
            sort = x.lotsBy(s, asked, 0, 0) == 0 ? asked : sort;
        }
        int size = 0;
        while (sort >= 0 && size < 40 && x.copy(s, size, s, size, 1) == 1) {
            size++;
        }
        answers.add((long) sort);
        answers.add((long) size);
        for (int i = 0; i < size; i++) {
            answers.add((long) numberAt(x, s, sort, i));
        }
    }

    private static int numberAt(FirstColour x, int s, int sort, int i) {
        int other = (s + 1) % 4;
        x.sheet(other, sort, x.count(0));
        x.copy(s, i, other, 0, 1);
        x.pull(0);
        if (x.judge(other) != 0) {
            return -1;
        }
        for (int c = 0; c < 12; c++) {
            x.paint(0, c);
            if (x.judge(other) != 0) {
                return c;
            }
        }
        return 99;
    }

    private static void unchanged(Scene scene, String name, Call call) {
        for (int p = 0; p < PROBES; p++) {
            FirstColour touched = scene.made();
            FirstColour twin = scene.made();
            call.on(touched);
            if (!probe(p, touched).equals(probe(p, twin))) {
                wrong++;
                System.out.println(test + ": " + name + " changed what probe " + p + " asks");
            }
        }
    }

    /** In the rich town the call answers so, and changes nothing. */
    private static void refused(String name, long want, Call call) {
        due(name, call.on(rich()), want);
        unchanged(BoundaryTests::rich, name, call);
    }

    private static void asked(String name, Call call) {
        unchanged(BoundaryTests::rich, name, call);
    }

    // ---- terms: lots and kinds

    private static void termsLotsAreNumberedFrom0On7AtMost() {
        FirstColour x = new FirstColour();
        for (int l = 0; l < 7; l++) {
            due("lot " + l, x.lot(HOUSE, 0, 0), l);
        }
        due("an eighth", x.lot(HOUSE, 0, 0), FULL);
        due("the last", x.told(6, 0), HOUSE);
        due("behind the last", x.told(7, 0), NO_LOT);
        due("ahead of the first", x.told(-1, 0), NO_LOT);
    }

    private static void termsBesideIsBothWays() {
        FirstColour x = apart(6, HOUSE);
        x.lot(HOUSE, 0, 63);
        due("the last one's", x.told(6, 2), 63);
        for (int l = 0; l < 6; l++) {
            due("beside the last, lot " + l, x.told(l, 2), 64);
        }
    }

    private static void termsNoHouseAtFirst() {
        FirstColour x = apart(7, HOUSE);
        for (int l = 0; l < 7; l++) {
            due("colour", x.told(l, 3), NONE);
            due("when", x.told(l, 4), NONE);
        }
        due("built", x.count(1), 0);
    }

    /** What a lot takes that is beside houses of these colours. */
    private static void takes(int kind, int more, int want, int... colours) {
        FirstColour x = apart(colours.length, HOUSE);
        x.lot(kind, more, (1 << colours.length) - 1);
        for (int l = 0; l < colours.length; l++) {
            x.paint(l, colours[l]);
        }
        String call = "kind " + kind + ", more " + more + ", beside " + java.util.Arrays.toString(colours);
        due("would, " + call, x.would(colours.length), want);
        due("build, " + call, x.build(colours.length), want);
    }

    private static void termsHouseTakesTheLeastThatIsNotTaken() {
        takes(HOUSE, 0, 0);
        takes(HOUSE, 0, 1, 0);
        takes(HOUSE, 0, 0, 1);
        takes(HOUSE, 0, 0, 11);
        takes(HOUSE, 0, 2, 0, 1, 3);
        takes(HOUSE, 0, 6, 5, 4, 3, 2, 1, 0);
    }

    private static void termsShyTakesAsIf0WereTaken() {
        takes(SHY, 0, 1);
        takes(SHY, 0, 1, 0);
        takes(SHY, 0, 2, 1);
        takes(SHY, 0, 1, 2);
        takes(SHY, 0, 7, 1, 2, 3, 4, 5, 6);
    }

    /** What a kind takes, whose as if is MORE modulo 5, beside the other colours 0 to 4. */
    private static void takesByModulo5(int kind) {
        int[][] others = {{1, 2, 3, 4}, {0, 2, 3, 4}, {0, 1, 3, 4}, {0, 1, 2, 4}, {0, 1, 2, 3}};
        int[] asIf = {0, 1, 2, 3, 4, 0, 1, 2, 3, 4};
        for (int more = 0; more < 10; more++) {
            takes(kind, more, 5, others[asIf[more]]);
            int next = (asIf[more] + 1) % 5;
            takes(kind, more, next, others[next]);
            takes(kind, more, asIf[more] == 0 ? 1 : 0);
        }
    }

    private static void termsPickyTakesAsIfMoreModulo5WereTaken() {
        takesByModulo5(PICKY);
    }

    private static void termsHiddenTakesAsAPicky() {
        takesByModulo5(HIDDEN);
    }

    private static void termsProudTakesAboveTheGreatestIfMoreThanMoreModulo4AreTaken() {
        int[] modulo = {0, 1, 2, 3, 0, 1, 2, 3, 0, 1};
        int[][] first = {{}, {2}, {2, 4}, {2, 4, 6}};
        int[][] oneMore = {{8}, {8, 2}, {2, 8, 4}, {2, 4, 8, 6}};
        for (int more = 0; more < 10; more++) {
            takes(PROUD, more, 1, first[modulo[more]]);
            takes(PROUD, more, 9, oneMore[modulo[more]]);
        }
    }

    private static void termsProudCountsUnlikeColours() {
        takes(PROUD, 1, 1, 5, 5);
        takes(PROUD, 1, 6, 5, 2);
        takes(PROUD, 2, 1, 5, 5, 2, 2);
    }

    private static void termsProudTakesAsAShyElse() {
        takes(PROUD, 0, 1);
        takes(PROUD, 1, 2, 1);
        takes(PROUD, 3, 4, 1, 2, 3);
        takes(PROUD, 3, 1, 0, 2, 3);
    }

    private static void termsColourAbove11Is11() {
        takes(PROUD, 0, 10, 9);
        takes(PROUD, 0, 11, 10);
        takes(PROUD, 0, 11, 11);
    }

    private static void termsFountainTakesAsIfNoneWereTaken() {
        takes(FOUNTAIN, 0, 0);
        takes(FOUNTAIN, 9, 0, 0);
        takes(FOUNTAIN, 4, 0, 0, 1, 2, 3, 4, 5);
    }

    private static void termsHiddenAloneDoesNotShow() {
        for (int kind = HOUSE; kind <= FOUNTAIN; kind++) {
            FirstColour x = apart(1, kind);
            x.lot(HOUSE, 0, 1);
            x.paint(0, 0);
            due("beside a house of kind " + kind, x.would(1), kind == HIDDEN ? 0 : 1);
        }
    }

    private static void termsTakenAreColoursOfHousesBuiltAndBeside() {
        FirstColour x = apart(2, HOUSE);
        x.lot(HOUSE, 0, 1);
        x.paint(1, 0);
        due("not beside", x.would(2), 0);
        due("not built", x.would(0), 0);
        x.paint(0, 0);
        due("built and beside", x.would(2), 1);
        x.pull(0);
        due("not built any more", x.would(2), 0);
        x.paint(0, 0);
        x.close(0, 2);
        due("not beside any more", x.would(2), 0);
    }

    // ---- terms: texts

    private static void fault(String text, int place) {
        FirstColour x = new FirstColour();
        due("text of " + text, read(x, text), place < 0 ? 1 : -100 - place);
    }

    private static void fits(String e) {
        fault("worth " + e + ";waits 1;moves 1;", -1);
        fault("worth 1;waits 1;moves " + e + ";", -1);
    }

    /** The fault is at a place of E. */
    private static void misfits(String e, int place) {
        fault("worth " + e + ";waits 1;moves 1;", 6 + place);
        fault("worth 1;waits 1;moves " + e + ";", 22 + place);
    }

    private static void termsTheTapeHas160BytesAtMost() {
        FirstColour x = new FirstColour();
        tape(x, blanks(159));
        due("the 160th", x.feed(1, 32, 0, 0, 0, 0), 160);
        due("one more", x.feed(1, 32, 0, 0, 0, 0), FULL);
        FirstColour y = new FirstColour();
        due("a text of 160 bytes", read(y, "worth 1;" + blanks(136) + "waits 2;moves 3;"), 1);
    }

    private static void termsTokensAreAsLongAsCanBe() {
        fault("worthlot;", 0);
        fault("worth lotlot;", 6);
        fault("worth notlot;", 6);
        fault("worth lot lot;", 10);
        fault("worth lot s;", 10);
        fault("wor th 1;", 0);
        fault("worth 12 34;", 9);
        misfits("1234 5", 5);
        fits("not lot");
        fits("1or 1and 1");
        fault("worth1;waits1;moves1;", -1);
        fault("worth(lots)or(lot);waits1;moves1;", -1);
    }

    private static void termsWordsAreOfLettersAToZ() {
        misfits("lota", 0);
        misfits("lotz", 0);
        misfits("alot", 0);
        misfits("zlot", 0);
        misfits("lot`", 3);
        misfits("lot{", 3);
        misfits("lotA", 3);
        misfits("lotZ", 3);
        misfits("lot_", 3);
        misfits("lot" + (char) 225, 3);
        misfits("`lot", 0);
        misfits("Lot", 0);
        fault("WORTH 1;", 0);
    }

    private static void termsNumbersAreOfDigits() {
        misfits("1/", 1);
        misfits("1:", 1);
        misfits("/1", 0);
        misfits(":1", 0);
        misfits("1a", 1);
        misfits("1.5", 1);
        fits("0");
        fits("9");
        fits("0123");
        fits("6789");
    }

    private static void termsMoreThan4DigitsAreTooLong() {
        fits("9999");
        fits("0000");
        misfits("10000", 0);
        misfits("00000", 0);
        misfits("1 + 99999", 4);
        misfits("99999999999999999999", 0);
        misfits("1 12345", 2);
    }

    /** Each byte behind "worth 1", where a number has just ended, and behind "worth ", where one may begin. */
    private static void termsAnyOtherByteBeginsNoToken() {
        for (int b = 0; b < 256; b++) {
            boolean goesOn = b >= '0' && b <= '9' || b == 32 || b == 10 || ";+-*<=".indexOf(b) >= 0;
            fault("worth 1" + (char) b, goesOn ? 8 : 7);
            boolean begins = b >= '0' && b <= '9' || b == 32 || b == 10 || "(-".indexOf(b) >= 0;
            fault("worth " + (char) b, begins ? 7 : 6);
            fault("" + (char) b, b == 32 || b == 10 ? 1 : 0);
            fault("worth (1" + (char) b, goesOn && b != ';' || b == ')' ? 9 : 8);
            fault("worth1;waits1;moves1;" + (char) b, b == 32 || b == 10 ? -1 : 21);
        }
    }

    private static void termsBlanksMayStandBetweenTokens() {
        fault(" \n worth\n(\n1\n)\n;\n\nwaits  1 ;\nmoves - 1 ; \n", -1);
        fault("worth\t1;", 5);
        fault("worth\r1;", 5);
        fault("worth" + (char) 11 + "1;", 5);
        fault("worth" + (char) 0 + "1;", 5);
        fault("worth" + (char) 160 + "1;", 5);
        fault("worth lo t;", 6);
        fault("worth 1 0;", 8);
    }

    private static void termsATextIsWorthWaitsMoves() {
        fault("waits 1;worth 1;moves 1;", 0);
        fault("moves 1;", 0);
        fault("worth 1;moves 1;", 8);
        fault("worth 1;worth 1;", 8);
        fault("worth 1;waits 1;waits 1;", 16);
        fault("worth 1;waits 1;moves 1;;", 24);
        fault("worth 1;waits 1;moves 1; worth", 25);
        fault("worth ;", 6);
        fault("worth 1;;", 8);
        fault("worth 1 waits 1;", 8);
        fault("1;", 0);
        fault(";", 0);
    }

    private static void termsNotStandsAheadOfAWholeComparison() {
        fits("not 1 < 2");
        fits("not not 1 = 2 and not 3");
        fits("(not 1) + 2");
        misfits("1 + not 2", 4);
        misfits("1 < not 2", 4);
        misfits("- not 2", 2);
        misfits("2 * not 2", 4);
        misfits("1 not", 2);
    }

    private static void termsAtMostOneComparisonInANot() {
        fits("1 < 2");
        fits("1 = 2");
        fits("1 < 2 and 3 = 4 or 5 < 6");
        fits("(1 < 2) < 3");
        misfits("1 < 2 < 3", 6);
        misfits("1 = 2 = 3", 6);
        misfits("1 < 2 = 3", 6);
        misfits("1 <= 2", 3);
        misfits("1 = < 2", 4);
    }

    private static void termsWhatCanNotStandThere() {
        misfits("()", 1);
        misfits("(1", 2);
        misfits("1)", 1);
        misfits("(1))", 3);
        misfits("+ 1", 0);
        misfits("* 1", 0);
        misfits("< 1", 0);
        misfits("1 + + 1", 4);
        misfits("1 + * 1", 4);
        misfits("1 or", 4);
        misfits("1 and or 1", 6);
        misfits("or 1", 0);
        misfits("1 (2)", 2);
        misfits("(1)(2)", 3);
        misfits("(1;)", 2);
        misfits("lot 1", 4);
        misfits("1 lot", 2);
        misfits("-", 1);
        misfits("not", 3);
    }

    private static void termsAWordThatIsNeitherKeyNorNameIsAFault() {
        misfits("l", 0);
        misfits("lo", 0);
        misfits("lotss", 0);
        misfits("colours", 0);
        misfits("besides", 0);
        misfits("orders", 0);
        misfits("mores", 0);
        misfits("xor", 0);
        misfits("nots", 0);
        misfits("1 ands 1", 2);
        fits("colour + lot + beside + order + more + lots");
        misfits("worth", 0);
        misfits("waits", 0);
        misfits("moves", 0);
        misfits("1 + worth", 4);
        fault("worths 1;", 0);
        fault("wort 1;", 0);
    }

    private static void termsAFaultyWordStandsForNoOtherToken() {
        misfits("-foo 1", 1);
        misfits("not foo 1", 4);
        misfits("(foo 1))", 1);
        misfits("((1) foo", 5);
        misfits("1 foo", 2);
        misfits("1 + foo 1", 4);
        misfits("-? 1", 1);
        misfits("(? 1))", 1);
        misfits("-12345", 1);
        misfits("(12345)", 1);
        fault("worth 1;foo waits 1;", 8);
        fault("worth 1;waits 1;moves 1;foo", 24);
    }

    private static void termsATextThatEndsTooEarlyHasItsFaultAtItsSize() {
        String[] early = {"", " ", "worth", "worth ", "worth 1", "worth 1 ", "worth 1;", "worth 1;\n", "worth 1 +",
            "worth 1 or", "worth 1 <", "worth (", "worth (1", "worth not", "worth -", "worth 1;waits",
            "worth 1;waits 1", "worth 1;waits 1;", "worth 1;waits 1;moves", "worth 1;waits 1;moves 1",
            "worth 1;waits 1;moves 1 \n"};
        for (String text : early) {
            fault(text, text.length());
        }
        fault("worth 1" + blanks(153), 160);
        fault(blanks(160), 160);
    }

    private static void termsTheFirstFaultIsTold() {
        misfits("1 2 ?", 2);
        misfits("? 12345", 0);
        misfits("12345 ?", 0);
        misfits("1 + 12345 + ?", 4);
        misfits("lo lo", 0);
        misfits(") ((((((1", 0);
        misfits("((((((1 ?", 5);
        fault("worth 1;waits ?;moves ?;", 14);
    }

    private static void termsFiveParenthesesMayBeOpen() {
        fits("(((((1)))))");
        misfits("((((((1))))))", 5);
        fits("(((((1) + (1)))))");
        misfits("(((((1 + (1))))))", 9);
        fits("(((((1))))) or (((((1)))))");
        fits("(((((1))))) * (((((1))))) + (((((1))))) < (((((1)))))");
    }

    private static void termsFiveNotsMayBeOpen() {
        fits("not not not not not 1");
        misfits("not not not not not not 1", 20);
        fits("not not not not not 1 and not not not not not 1 or not not not not not 1");
        misfits("not not not not not (1)", 20);
        fits("not not not not (1)");
    }

    private static void termsANotIsOpenTillItsComparisonEnds() {
        misfits("not not not not not 1 < (1)", 24);
        misfits("not not not not not 1 + -1", 24);
        misfits("not not not not not 1 * -1", 24);
        fits("not not not not not 1 < 1 and (1)");
        fits("not not not not not 1 < 1 or -1");
        fits("(not not not not 1 < 1) + (1)");
        misfits("not 1 < (((((1)))))", 12);
        fits("not 1 < ((((1))))");
    }

    private static void termsFiveMinusesMayBeOpen() {
        fits("-----1");
        misfits("------1", 5);
        fits("-----1 * -----1 - -----1 < -----1");
        misfits("-----(1)", 5);
        fits("----(1)");
        fits("----(1) + (((((1)))))");
        misfits("-(((((1)))))", 5);
    }

    private static void termsAMinusBetweenTwoIsNotCounted() {
        fits("(((((1 - 2)))))");
        misfits("(((((1 - -2)))))", 9);
        fits("1------1");
        misfits("1-------1", 7);
        fits("----(1 - 2)");
    }

    private static void termsOpenOnesOfAllSortsAreCountedAsOne() {
        fits("(not -(-1))");
        misfits("(not -(--1))", 8);
        fits("not not (-(1))");
        misfits("not not (-((1)))", 11);
        misfits("not not (-(not 1))", 11);
    }

    private static void termsTextsAreNumberedFrom0On6AtMost() {
        FirstColour x = new FirstColour();
        due("at first", x.count(4), 1);
        for (int t = 1; t < 6; t++) {
            due("text " + t, read(x, "worth 1;waits 1;moves 1;"), t);
            due("texts", x.count(4), t + 1);
        }
        due("a seventh", read(x, "worth 1;waits 1;moves 1;"), FULL);
        due("still six", x.count(4), 6);
    }

    private static void termsText0IsTheLawAtFirst() {
        FirstColour x = apart(7, HOUSE);
        int[] worth = {20, 16, 12, 8, 4, 0, 0, 0, 0, 0, 0, 0};
        for (int c = 0; c < 12; c++) {
            due("worth of " + c, x.asks(0, 6, c, 7), worth[c]);
        }
        for (int order = 0; order < 8; order++) {
            due("waits " + order, x.asks(1, 0, 11, order), order);
        }
        due("moves", x.asks(2, 0, 0, 0), 1);
        due("the law", x.count(5), 0);
    }

    /** What all parts of a text of E say of the only lot. */
    private static void says(String e, int worth, int moves) {
        FirstColour x = apart(1, HOUSE);
        enforce(x, "worth " + e + ";waits " + e + ";moves " + e + ";");
        due("worth " + e, x.asks(0, 0, 0, 0), worth);
        due("waits " + e, x.asks(1, 0, 0, 0), worth);
        due("moves " + e, x.asks(2, 0, 0, 0), moves);
    }

    private static void termsWorthAndWaitsAre0To99ElseTheBound() {
        says("0", 0, 0);
        says("1", 1, 1);
        says("98", 98, 1);
        says("99", 99, 1);
        says("100", 99, 1);
        says("9999", 99, 1);
        says("-1", 0, 1);
        says("-99", 0, 1);
        says("1 - 1", 0, 0);
    }

    private static void termsMovesIsNot0() {
        says("-1", 0, 1);
        says("2", 2, 1);
        says("5 - 5", 0, 0);
        says("256", 99, 1);
        says("256*256*256*256", 0, 0);
    }

    private static void termsAnEIsAnIntThatWraps() {
        says("2048*1024*1024", 0, 1);
        says("2048*1024*1024 - 1", 99, 1);
        says("2048*1024*1024 - 1 < 0", 0, 0);
        says("2048*1024*1024 < 0", 1, 1);
        says("-(2048*1024*1024) < 0", 1, 1);
        says("-(2048*1024*1024) = 2048*1024*1024", 1, 1);
        says("2048*1024*1024 + 2048*1024*1024", 0, 0);
        says("0 - 2048*1024*1024 < 0", 1, 1);
        says("9999*9999*21 < 0", 0, 0);
        says("9999*9999*22 < 0", 1, 1);
        says("256*256*256*256 + 5", 5, 1);
    }

    private static void termsOfOrAndNotAndComparisonsComes1Or0() {
        says("7 or 9", 1, 1);
        says("0 or 9", 1, 1);
        says("9 or 0", 1, 1);
        says("0 or 0", 0, 0);
        says("7 and 9", 1, 1);
        says("7 and 0", 0, 0);
        says("0 and 7", 0, 0);
        says("not 0", 1, 1);
        says("not 1", 0, 0);
        says("not not 9", 1, 1);
        says("1 < 2", 1, 1);
        says("2 < 2", 0, 0);
        says("3 < 2", 0, 0);
        says("2 = 2", 1, 1);
        says("2 = 3", 0, 0);
        says("-2 < 1", 1, 1);
    }

    private static void termsWhatIsNot0IsTrue() {
        says("-5 and -1", 1, 1);
        says("-5 or 0", 1, 1);
        says("not -5", 0, 0);
        says("2048*1024*1024 and 1", 1, 1);
        says("not (2048*1024*1024)", 0, 0);
    }

    private static void termsWhatBindsFirst() {
        says("1 or 0 and 0", 1, 1);
        says("not 0 and 0", 0, 0);
        says("not 0 or 1", 1, 1);
        says("not 1 = 2", 1, 1);
        says("1 + 1 < 1 + 2", 1, 1);
        says("2 + 3 * 4", 14, 1);
        says("20 - 5 - 3", 12, 1);
        says("20 - 5 + 3", 18, 1);
        says("-2 + 5", 3, 1);
        says("-2 * -3", 6, 1);
        says("3--4", 7, 1);
        says("20 - (5 - 3)", 18, 1);
    }

    /** What a name says at the least and at the most that it can be. */
    private static void termsNamesAreOfTheLot() {
        String[] names = {"colour", "lot", "beside", "order", "more", "lots"};
        int[] least = {0, 0, 0, 0, 0, 1};
        int[] most = {11, 6, 6, 7, 9, 7};
        for (int i = 0; i < names.length; i++) {
            String text = "worth 1 + " + names[i] + ";waits " + names[i] + " * 2;moves " + names[i] + ";";
            FirstColour x = apart(1, HOUSE);
            enforce(x, text);
            due("least " + names[i], x.asks(0, 0, 0, 0), least[i] + 1);
            due("least " + names[i], x.asks(1, 0, 0, 0), least[i] * 2);
            due("least " + names[i], x.asks(2, 0, 0, 0), least[i]);
            FirstColour y = apart(6, HOUSE);
            y.lot(FOUNTAIN, 9, 63);
            enforce(y, text);
            due("most " + names[i], y.asks(0, 6, 11, 7), most[i] + 1);
            due("most " + names[i], y.asks(1, 6, 11, 7), most[i] * 2);
            due("most " + names[i], y.asks(2, 6, 11, 7), 1);
        }
    }

    private static void termsOrderOfMovesIs0ButInAsks() {
        FirstColour x = apart(2, HOUSE);
        buildAll(x);
        enforce(x, "worth 0;waits 0;moves order;");
        due("asks, order 0", x.asks(2, 1, 0, 0), 0);
        due("asks, order 7", x.asks(2, 1, 0, 7), 1);
        due("laws", x.laws(0, 1, 0), 2);
        due("idle", x.idle(0), 1);
        due("lane", x.lane(0, 1), 0);
        FirstColour y = apart(2, HOUSE);
        buildAll(y);
        enforce(y, "worth 0;waits 0;moves order = 0;");
        due("lane, order = 0", y.lane(0, 1), 1);
    }

    // ---- terms: building, lanes, the law of painting, images, sheets, refusals

    private static void termsWhoIsBuiltIsTheYoungest() {
        FirstColour x = apart(2, HOUSE);
        x.build(1);
        x.build(0);
        x.lane(0, 1);
        due("the younger", x.told(0, 3), 1);
        due("the elder", x.told(1, 3), 0);
        FirstColour y = apart(2, HOUSE);
        y.build(1);
        y.build(0);
        y.pull(1);
        y.build(1);
        y.lane(0, 1);
        due("built anew, the younger", y.told(1, 3), 1);
        due("now the elder", y.told(0, 3), 0);
        FirstColour z = apart(2, HOUSE);
        z.paint(1, 0);
        z.paint(0, 0);
        z.paint(1, 0);
        z.lane(0, 1);
        due("painted over, as old as before", z.told(1, 3), 0);
    }

    private static void termsHowManyColoursCountsUnlikeOnesOfAllBuilt() {
        FirstColour x = apart(6, HOUSE);
        x.lot(HIDDEN, 0, 0);
        due("none", x.count(2), 0);
        for (int l = 0; l < 6; l++) {
            x.paint(l, 4);
        }
        due("all alike", x.count(2), 1);
        x.paint(6, 0);
        due("a hidden one counts", x.count(2), 2);
        for (int l = 0; l < 6; l++) {
            x.paint(l, 11 - l);
        }
        due("all unlike", x.count(2), 7);
    }

    private static void termsNobodyMovesUnlessBothAreBuilt() {
        FirstColour x = apart(4, FOUNTAIN);
        x.build(1);
        due("neither", x.lane(2, 3), 0);
        due("the second", x.lane(0, 1), 0);
        due("the first", x.lane(1, 2), 0);
        x.build(0);
        x.close(0, 1);
        due("both", x.lane(0, 1), 20);
    }

    private static void termsNobodyMovesUnlessAlike() {
        FirstColour x = apart(2, FOUNTAIN);
        x.paint(0, 0);
        x.paint(1, 1);
        due("0 and 1", x.lane(0, 1), 0);
        x.close(0, 1);
        x.paint(0, 11);
        x.paint(1, 11);
        due("11 and 11", x.lane(0, 1), 1);
    }

    private static void termsMovesIsAskedOfTheYoungerOneWithItsColourAsItIs() {
        FirstColour x = apart(2, HOUSE);
        x.paint(1, 5);
        x.paint(0, 5);
        read(x, "worth 0;waits 0;moves lot = 0;");
        read(x, "worth 0;waits 0;moves lot = 1;");
        read(x, "worth 0;waits 0;moves colour = 5;");
        read(x, "worth 0;waits 0;moves colour = 0;");
        read(x, "worth 0;waits 0;moves beside = 1;");
        due("by whom anything moves", x.laws(0, 1, 1), 1 | 2 | 8 | 32);
        due("by whom nothing moves", x.laws(0, 1, 0), 4 | 16);
    }

    private static void termsTheMoverTakesByThoseTakenThen() {
        FirstColour x = apart(3, HOUSE);
        x.lot(HOUSE, 0, 6);
        x.paint(0, 3);
        x.paint(1, 0);
        x.paint(2, 1);
        x.paint(3, 3);
        due("moves", x.lane(0, 3), 1);
        due("0, 1 and 3 are taken", x.told(3, 3), 2);
        FirstColour y = apart(2, HOUSE);
        y.paint(0, 3);
        y.paint(1, 3);
        y.lane(0, 1);
        due("3 is taken by the elder alone", y.told(1, 3), 0);
    }

    private static void termsItsOwnColourIsNotTaken() {
        FirstColour x = apart(1, HIDDEN);
        x.lot(HOUSE, 0, 0);
        x.paint(0, 0);
        x.paint(1, 0);
        due("it takes its own again, on and on", x.lane(0, 1), 20);
        due("still 0", x.told(1, 3), 0);
    }

    /** Lot 1 moves from 0 to 1; hidden ones of colour 1 are beside it. */
    private static FirstColour towardsHidden() {
        FirstColour x = apart(2, HOUSE);
        x.lot(HIDDEN, 0, 2);
        x.lot(HIDDEN, 0, 2);
        x.paint(0, 0);
        x.paint(1, 0);
        x.paint(2, 1);
        x.paint(3, 1);
        return x;
    }

    private static void termsTheFirstByNumbersMovesNext() {
        FirstColour x = towardsHidden();
        due("twice", x.lane(0, 1), 2);
        due("lot 2 moved", x.told(2, 3), 2);
        due("lot 3 did not", x.told(3, 3), 1);
    }

    private static void termsOneThatIsNotAlikeIsPassedBy() {
        FirstColour x = towardsHidden();
        x.paint(2, 3);
        due("twice", x.lane(0, 1), 2);
        due("lot 2 did not", x.told(2, 3), 3);
        due("lot 3 moved", x.told(3, 3), 2);
    }

    private static void termsOneOfWhichTheYoungerDoesNotMoveIsPassedBy() {
        FirstColour x = towardsHidden();
        enforce(x, "worth 0;waits 0;moves not lot = 2;");
        due("twice", x.lane(0, 1), 2);
        due("lot 2 did not", x.told(2, 3), 1);
        due("lot 3 moved", x.told(3, 3), 2);
    }

    private static void termsTheOneThatMovedLastMovesAgainIfItIsTheYounger() {
        FirstColour x = apart(1, HOUSE);
        x.lot(HIDDEN, 0, 0);
        x.lot(PICKY, 1, 2);
        x.paint(1, 0);
        x.paint(0, 5);
        x.paint(2, 5);
        // Lot 2 moves from 5 to 0, as lot 1 does not show; then, being alike with lot 1 and younger, on and on.
        due("on and on", x.lane(0, 2), 20);
        FirstColour y = apart(1, HOUSE);
        y.lot(HIDDEN, 0, 0);
        y.lot(PICKY, 1, 2);
        y.paint(0, 5);
        y.paint(2, 5);
        y.paint(1, 0);
        due("lot 1 being the younger, it moves", y.lane(0, 2), 2);
        due("off 0", y.told(1, 3), 1);
    }

    private static void termsTheChainGoesOnFromTheOneThatMovedLast() {
        // Beside each other are 1 and 2, 2 and 3, the last two hidden.
        FirstColour x = apart(2, HOUSE);
        x.lot(HIDDEN, 0, 2);
        x.lot(HIDDEN, 1, 4);
        x.paint(0, 0);
        x.paint(1, 0);
        x.paint(2, 1);
        x.paint(3, 2);
        due("three", x.lane(0, 1), 3);
        due("lot 0 stays", x.told(0, 3), 0);
        due("lot 1 from 0", x.told(1, 3), 1);
        due("lot 2 from 1", x.told(2, 3), 2);
        due("lot 3 from 2", x.told(3, 3), 0);
    }

    private static void termsMoves20TimesAtMost() {
        FirstColour x = apart(2, FOUNTAIN);
        buildAll(x);
        due("laws of 20", x.laws(0, 1, 20), 1);
        due("laws of 19", x.laws(0, 1, 19), 0);
        due("idle", x.idle(2), 20);
        due("lane", x.lane(0, 1), 20);
    }

    private static void termsAnOrderFitsByThoseBuiltAheadAlone() {
        FirstColour x = path(3);
        x.paint(0, 0);
        x.paint(1, 1);
        x.paint(2, 0);
        due("lot 1 not first", x.built(0), 4);
        FirstColour y = path(3);
        y.paint(0, 1);
        y.paint(1, 0);
        y.paint(2, 1);
        due("lot 1 first", y.built(0), 2);
        due("the first", y.built(1), 213);
        FirstColour z = path(3);
        z.paint(0, 1);
        z.paint(1, 0);
        due("what is not built is left out", z.built(1), 21);
        z.close(0, 1);
        due("as all are beside now", z.built(0), 0);
    }

    private static void termsAnOutlawTakesTheColourItHas() {
        FirstColour x = path(3);
        x.paint(0, 0);
        x.paint(1, 5);
        x.paint(2, 0);
        due("none fits", x.built(0), 0);
        due("lot 1 alone", x.blame(), 2);
    }

    private static void termsTheLotsOfASeed() {
        // From SEED 0: 48271, 182605794, 1291394886, 1914720637, 2078669041, 407355683 modulo 7, 6, .. 2.
        int[] order = {6, 0, 2, 3, 4, 5, 1};
        for (int t = 0; t < 60; t++) {
            FirstColour x = new FirstColour();
            for (int l = 0; l < 7; l++) {
                x.lot((t + l) % 5, t % 10, t * 37 + l * 11 & (1 << l) - 1);
            }
            row(x, 0, BYTES, order);
            due("drawn(0)", x.drawn(0), x.paints(0, 0));
        }
    }

    private static void termsSheetsAre0To3AndMissingAtFirst() {
        FirstColour x = new FirstColour();
        for (int s = 0; s < 4; s++) {
            due("sheet " + s, x.cell(s, 0, 0), NOTHING);
            due("becomes a row", x.sheet(s, INTS, 1), 1);
            due("is there", x.cell(s, 0, 0), 1);
        }
        due("sheet -1", x.cell(-1, 0, 0), BAD);
        due("sheet 4", x.cell(4, 0, 0), BAD);
    }

    private static void termsASheetHas40NumbersAtMost() {
        FirstColour x = new FirstColour();
        for (int sort = BYTES; sort <= INTS; sort++) {
            due("40", x.sheet(0, sort, 40), 1);
            due("the last", x.cell(0, 39, 1), 1);
            due("behind the last", x.cell(0, 40, 1), OUTSIDE);
            due("41", x.sheet(0, sort, 41), BAD);
        }
    }

    private static void termsOrdersAsDigitsHaveTheFirstLotHighest() {
        FirstColour x = apart(7, HOUSE);
        due("seven", x.order(0, 1), 1234567);
        for (int l = 0; l < 6; l++) {
            x.build(l);
        }
        due("lot 6 alone", x.order(0, 1), 7);
        x.pull(0);
        due("lots 0 and 6", x.order(1, 1), 17);
        x.build(6);
        due("lot 0 alone", x.rule(0, 1), 1);
    }

    /** Seven lots of all kinds; some built, the last ones first. */
    private static FirstColour mixed(int t) {
        FirstColour x = new FirstColour();
        for (int l = 0; l < 7; l++) {
            x.lot((t + l * 5) % 6, (t * 7 + l * 3) % 10, t * 37 + l * 11 & (1 << l) - 1);
        }
        for (int l = 6; l >= 0; l--) {
            if ((t >> l % 4 & 1) == 0) {
                x.build(l);
            }
        }
        return x;
    }

    private static void termsOrdersInThoughtAreAsTheyWouldTrulyBe() {
        for (int t = 0; t < 60; t++) {
            FirstColour x = mixed(t);
            int[] order = new int[7];
            int size = 0;
            for (int l = 6; l >= 0; l--) {
                if (x.told(l, 3) == NONE) {
                    order[size] = l;
                    size++;
                }
            }
            row(x, 0, BYTES, java.util.Arrays.copyOf(order, size));
            int[] thought = new int[8];
            for (int what = 0; what < 8; what++) {
                thought[what] = x.paints(0, what);
            }
            due("how many, town " + t, x.raise(0), thought[0]);
            for (int l = 0; l < 7; l++) {
                due("lot " + l + " of town " + t, x.told(l, 3), thought[l + 1]);
            }
        }
    }

    private static void termsLanesInThoughtAreAsTheyWouldTrulyBe() {
        for (int t = 0; t < 60; t++) {
            int idle = 0;
            int most = 0;
            int first = NONE;
            for (int pair = 0; pair < 49; pair++) {
                FirstColour x = mixed(t);
                int a = pair / 7;
                int b = pair % 7;
                int moved = x.lane(a, b);
                if (moved >= 0) {
                    due("laws(" + a + ", " + b + "), town " + t, mixed(t).laws(a, b, moved), 1);
                    idle += a < b && moved == 0 ? 1 : 0;
                    first = a < b && moved > most ? 10 * a + b : first;
                    most = Math.max(most, moved);
                }
            }
            due("idle(0), town " + t, mixed(t).idle(0), idle);
            due("idle(1), town " + t, mixed(t).idle(1), first);
            due("idle(2), town " + t, mixed(t).idle(2), most);
        }
    }

    private static void termsAnImageKeepsWhoIsBuiltWhen() {
        for (int t = 0; t < 60; t++) {
            FirstColour x = mixed(t);
            x.image();
            for (int l = 0; l < 7; l++) {
                x.pull(l);
                x.build(l);
                x.close(l, (l + 1) % 7);
            }
            x.back();
            for (int what = 0; what < 3; what++) {
                due("idle(" + what + "), town " + t, x.idle(what), mixed(t).idle(what));
            }
            for (int l = 0; l < 7; l++) {
                for (int what = 0; what < 5; what++) {
                    due("told(" + l + ", " + what + "), town " + t, x.told(l, what), mixed(t).told(l, what));
                }
            }
        }
    }

    private static void termsTheConstants() {
        due("NONE", FirstColour.NONE, -1);
        due("BAD", FirstColour.BAD, -2);
        due("STATE", FirstColour.STATE, -3);
        due("FULL", FirstColour.FULL, -4);
        due("NO", FirstColour.NO, -4611686018427387904L);
    }

    // ---- terms: refusals change nothing, nor does what is asked

    private static void termsRefusalsChangeNothingOfTheLaw() {
        refused("count(-1)", BAD, x -> x.count(-1));
        refused("count(7)", BAD, x -> x.count(7));
        refused("feed(0)", BAD, x -> x.feed(0, 119, 119, 119, 119, 119));
        refused("feed(6)", BAD, x -> x.feed(6, 119, 119, 119, 119, 119));
        refused("feed, the first", BAD, x -> x.feed(5, 256, 119, 119, 119, 119));
        refused("feed, the last", BAD, x -> x.feed(5, 119, 119, 119, 119, -1));
        refused("force(-1)", BAD, x -> x.force(-1));
        refused("force(2)", BAD, x -> x.force(2));
        refused("asks, lot", NO_LOT, x -> x.asks(0, 5, 0, 0));
        refused("asks, part", UNFIT, x -> x.asks(3, 0, 0, 0));
        unchanged(BoundaryTests::full, "feed, full", x -> x.feed(1, 32, 0, 0, 0, 0));
        unchanged(BoundaryTests::full, "text, full", x -> x.text());
        due("feed, full", full().feed(1, 32, 0, 0, 0, 0), FULL);
        due("text, full", full().text(), FULL);
    }

    private static void termsRefusalsChangeNothingOfLots() {
        refused("lot, kind", BAD, x -> x.lot(6, 0, 0));
        refused("lot, more", BAD, x -> x.lot(HOUSE, 10, 0));
        refused("lot, others", BAD, x -> x.lot(HOUSE, 0, 33));
        refused("told, lot", NO_LOT, x -> x.told(5, 0));
        refused("told, what", UNFIT, x -> x.told(0, 5));
        refused("build, lot", NO_LOT, x -> x.build(5));
        refused("build, built", STATE, x -> x.build(0));
        refused("would, lot", NO_LOT, x -> x.would(5));
        refused("pull, lot", NO_LOT, x -> x.pull(5));
        refused("pull, none", STATE, x -> x.pull(1));
        refused("paint, lot", NO_LOT, x -> x.paint(5, 0));
        refused("paint, built", UNFIT, x -> x.paint(0, 12));
        refused("paint, not built", UNFIT, x -> x.paint(1, -1));
        refused("lane, lot", NO_LOT, x -> x.lane(0, 5));
        refused("lane, alike", NO_LOT, x -> x.lane(4, 4));
        refused("lane, beside", STATE, x -> x.lane(0, 3));
        refused("close, lot", NO_LOT, x -> x.close(0, 5));
        refused("close, alike", NO_LOT, x -> x.close(1, 1));
        refused("close, not beside", 0, x -> x.close(0, 2));
        unchanged(BoundaryTests::full, "lot, full", x -> x.lot(HOUSE, 0, 1));
        due("lot, full", full().lot(HOUSE, 0, 1), FULL);
    }

    private static void termsRefusalsChangeNothingOfOrders() {
        refused("idle", BAD, x -> x.idle(3));
        refused("order", BAD, x -> x.order(2, 0));
        refused("paints, sheet", BAD, x -> x.paints(4, 0));
        refused("paints, missing", NOTHING, x -> x.paints(3, 0));
        refused("paints, others", BAD, x -> x.paints(1, 0));
        refused("paints, what", UNFIT, x -> x.paints(0, 6));
        refused("raise, sheet", BAD, x -> x.raise(4));
        refused("raise, missing", NOTHING, x -> x.raise(3));
        refused("raise, others", BAD, x -> x.raise(1));
        refused("raise, too few", BAD, x -> x.raise(2));
        refused("when, lot", NO_LOT, x -> x.when(5, 2, 0));
        refused("when, built", STATE, x -> x.when(0, 2, 0));
        refused("when, sheet", BAD, x -> x.when(3, 4, 0));
        refused("when, missing", NOTHING, x -> x.when(3, 3, 0));
        refused("when, lot told", BAD, x -> x.when(3, 0, 0));
        refused("when, what", UNFIT, x -> x.when(3, 2, 2));
        refused("rule", BAD, x -> x.rule(3, 0));
        refused("ahead", -100000, x -> x.ahead(0, 1));
        refused("built", BAD, x -> x.built(2));
    }

    private static void termsRefusalsChangeNothingOfMapsAndLots() {
        refused("judge, sheet", BAD, x -> x.judge(4));
        refused("judge, missing", NOTHING, x -> x.judge(3));
        refused("judge, size", BAD, x -> x.judge(0));
        refused("plans, sheet", BAD, x -> x.plans(-1, 0));
        refused("plans, missing", NOTHING, x -> x.plans(3, 0));
        refused("plans, size", BAD, x -> x.plans(0, 0));
        refused("plans, what", UNFIT, x -> x.plans(1, 2));
        refused("film(4)", BAD, x -> x.film(4));
        refused("film(-1)", BAD, x -> x.film(-1));
        refused("laws, lot", NO_LOT, x -> x.laws(0, 5, 0));
        refused("laws, beside", STATE, x -> x.laws(0, 1, 0));
        refused("laws, many", UNFIT, x -> x.laws(0, 4, 21));
        refused("drawn", BAD, x -> x.drawn(-1));
        refused("odds", FirstColour.NO, x -> x.odds(0, 41, 0, 0));
        due("back, no image", path(2).back(), STATE);
        unchanged(() -> path(2), "back, no image", x -> x.back());
    }

    private static void termsRefusalsChangeNothingOfSheets() {
        refused("sheet, sheet", BAD, x -> x.sheet(4, BYTES, 1));
        refused("sheet, sort", BAD, x -> x.sheet(0, 3, 1));
        refused("sheet, n 41", BAD, x -> x.sheet(0, INTS, 41));
        refused("sheet, n -1", BELOW, x -> x.sheet(0, INTS, -1));
        refused("cell, sheet", BAD, x -> x.cell(4, 0, 9));
        refused("cell, missing", NOTHING, x -> x.cell(3, 0, 9));
        refused("cell, at the size", OUTSIDE, x -> x.cell(0, 2, 9));
        refused("cell, -1", OUTSIDE, x -> x.cell(1, -1, 9));
        refused("copy, sheet", BAD, x -> x.copy(1, 0, 4, 0, 1));
        refused("copy, missing", NOTHING, x -> x.copy(1, 0, 3, 0, 1));
        refused("copy, sorts", OTHER, x -> x.copy(1, 0, 2, 0, 1));
        refused("copy, from outside", OUTSIDE, x -> x.copy(1, 3, 1, 0, 3));
        refused("copy, to outside", OUTSIDE, x -> x.copy(1, 0, 1, 3, 3));
        refused("copy, n -1", OUTSIDE, x -> x.copy(1, 0, 1, 1, -1));
        refused("lotsBy, sheet", BAD, x -> x.lotsBy(4, BYTES, 0, 1));
        refused("lotsBy, n", BAD, x -> x.lotsBy(1, SHORTS, 0, 8));
        refused("lotsBy, missing", NOTHING, x -> x.lotsBy(3, BYTES, 0, 1));
        refused("lotsBy, sort", OTHER, x -> x.lotsBy(1, INTS, 0, 1));
        refused("lotsBy, none ahead", OUTSIDE, x -> x.lotsBy(1, SHORTS, 3, 1));
        refused("lotsBy, none left in", 0, x -> x.lotsBy(1, SHORTS, 0, 0));
        refused("taken, kind", BAD, x -> x.taken(0, 7));
        refused("taken, place", OUTSIDE, x -> x.taken(14, 0));
        refused("taken, none", NOTHING, x -> x.taken(5, 0));
        refused("taken, other", OTHER, x -> x.taken(0, 6));
    }

    private static void termsWhatIsAskedChangesNothing() {
        for (int i = 0; i < 7; i++) {
            int what = i;
            asked("count", x -> x.count(what));
            asked("told", x -> x.told(what % 5, what % 5));
            asked("would", x -> x.would(what % 5));
            asked("paints", x -> x.paints(0, what % 6));
            asked("taken", x -> x.taken(what * 2, 6));
            asked("asks", x -> x.asks(what % 3, what % 5, what, what));
        }
        for (int i = 0; i < 2; i++) {
            int what = i;
            asked("order, fewest", x -> x.order(0, what));
            asked("order, most", x -> x.order(1, what));
            asked("when", x -> x.when(3, 2, what));
            asked("built", x -> x.built(what));
            asked("plans", x -> x.plans(1, what));
            asked("odds", x -> x.odds(0, 40, 3, what));
        }
        for (int i = 0; i < 3; i++) {
            int what = i;
            asked("idle", x -> x.idle(what));
            asked("rule, colours", x -> x.rule(what, 0));
            asked("rule", x -> x.rule(what, 1));
            asked("laws", x -> x.laws(0, 4, what));
        }
        asked("fewest", x -> x.fewest());
        asked("ahead", x -> x.ahead(1, 3));
        asked("blame", x -> x.blame());
        asked("judge", x -> x.judge(1));
        asked("drawn", x -> x.drawn(7));
    }

    // ---- the law

    private static void promise01ANewObjectHasNoLots() {
        FirstColour x = new FirstColour();
        due("lots", x.count(0), 0);
        due("built", x.count(1), 0);
        due("colours", x.count(2), 0);
        due("pairs", x.count(3), 0);
        due("texts", x.count(4), 1);
        due("the law", x.count(5), 0);
        due("the tape", x.count(6), 0);
        due("lot 0", x.told(0, 0), NO_LOT);
        due("its image", x.back(), STATE);
    }

    private static void promise02WhatIs0To6() {
        FirstColour x = path(2);
        x.build(1);
        x.feed(4, 32, 32, 32, 32, 32);
        int[] answers = {2, 2, 1, 1, 1, 0, 4};
        for (int what = 0; what < 7; what++) {
            due("count(" + what + ")", x.count(what), answers[what]);
        }
        for (int what : new int[] {-1, 7, LEAST, GREATEST}) {
            due("count(" + what + ")", x.count(what), BAD);
        }
    }

    private static void promise02CountsOfAFullTown() {
        FirstColour x = close(7, HOUSE);
        buildAll(x);
        for (int t = 1; t < 6; t++) {
            read(x, "worth 1;waits 1;moves 1;");
        }
        x.force(5);
        tape(x, blanks(160));
        int[] answers = {7, 127, 7, 21, 6, 5, 160};
        for (int what = 0; what < 7; what++) {
            due("count(" + what + ")", x.count(what), answers[what]);
        }
    }

    private static void promise03NIs1To5() {
        FirstColour x = new FirstColour();
        int size = 0;
        for (int n = 1; n <= 5; n++) {
            size += n;
            due("feed(" + n + ")", x.feed(n, 32, 32, 32, 32, 32), size);
        }
        for (int n : new int[] {0, 6, -1, LEAST, GREATEST}) {
            due("feed(" + n + ")", x.feed(n, 32, 32, 32, 32, 32), BAD);
        }
        due("none came", x.count(6), size);
    }

    private static void promise03BytesAre0To255EachOfFive() {
        for (int place = 0; place < 5; place++) {
            for (int value : new int[] {0, 255, -1, 256, LEAST, GREATEST}) {
                int[] b = {32, 32, 32, 32, 32};
                b[place] = value;
                boolean good = value == 0 || value == 255;
                for (int n = 1; n <= 5; n++) {
                    FirstColour x = new FirstColour();
                    String call = n + " of bytes, " + value + " at " + place;
                    due(call, x.feed(n, b[0], b[1], b[2], b[3], b[4]), good ? n : BAD);
                    due(call + ", the tape", x.count(6), good ? n : 0);
                }
            }
        }
    }

    private static void promise03TheFirstNOfFiveCome() {
        String text = "worth 1;waits 2;moves 3;";
        for (int n = 1; n <= 5; n++) {
            FirstColour x = apart(1, HOUSE);
            for (int i = 0; i < text.length(); i += n) {
                int[] b = new int[5];
                for (int k = 0; k < 5; k++) {
                    b[k] = k < n && i + k < text.length() ? text.charAt(i + k) : k < n ? 32 : '?';
                }
                x.feed(n, b[0], b[1], b[2], b[3], b[4]);
            }
            due("by " + n, x.text(), 1);
            x.force(1);
            due("worth, by " + n, x.asks(0, 0, 0, 0), 1);
            due("waits, by " + n, x.asks(1, 0, 0, 0), 2);
        }
    }

    private static void promise03FullIfNotAllHaveRoom() {
        for (int n = 1; n <= 5; n++) {
            FirstColour x = new FirstColour();
            tape(x, blanks(160 - n));
            due(n + " into " + n, x.feed(n, 32, 32, 32, 32, 32), 160);
            FirstColour y = new FirstColour();
            tape(y, blanks(161 - n));
            due(n + " into " + (n - 1), y.feed(n, 32, 32, 32, 32, 32), FULL);
            due("none comes", y.count(6), 161 - n);
        }
    }

    private static void promise03BadIsAheadOfFull() {
        FirstColour x = new FirstColour();
        tape(x, blanks(160));
        due("n 0", x.feed(0, 32, 32, 32, 32, 32), BAD);
        due("n 6", x.feed(6, 32, 32, 32, 32, 32), BAD);
        due("the last byte", x.feed(1, 32, 32, 32, 32, 256), BAD);
        due("the first byte", x.feed(1, -1, 32, 32, 32, 32), BAD);
        due("good ones", x.feed(1, 32, 32, 32, 32, 32), FULL);
    }

    private static void promise04AnswersTheNumberOrThePlaceOfTheFault() {
        FirstColour x = new FirstColour();
        due("empty", x.text(), -100);
        due("a fault at 0", read(x, "?"), -100);
        due("a fault at 1", read(x, " ?"), -101);
        due("a fault at 159", read(x, blanks(159) + "?"), -259);
        due("a fault at 160", read(x, blanks(160)), -260);
        due("text 1", read(x, "worth 1;waits 1;moves 1;"), 1);
        due("text 2", read(x, "worth 1;waits 1;moves 1;"), 2);
    }

    private static void promise04TheTapeIsEmptyThen() {
        FirstColour x = new FirstColour();
        read(x, "worth 1;");
        due("by a fault", x.count(6), 0);
        due("no text more", x.count(4), 1);
        read(x, "worth 1;waits 1;moves 1;");
        due("by a text", x.count(6), 0);
        due("a text more", x.count(4), 2);
        tape(x, blanks(160));
        x.text();
        due("there is room again", x.feed(5, 32, 32, 32, 32, 32), 5);
        due("nothing is left of it", x.text(), -105);
    }

    private static void promise04FullIsAheadOfTheFaultAndTheTapeStays() {
        FirstColour x = new FirstColour();
        for (int t = 1; t < 6; t++) {
            due("text " + t, read(x, "worth 1;waits 1;moves 1;"), t);
        }
        due("an empty tape", x.text(), FULL);
        due("a fault", read(x, "?"), FULL);
        due("the tape stays", x.count(6), 1);
        due("again", x.text(), FULL);
        FirstColour y = new FirstColour();
        for (int t = 1; t < 6; t++) {
            read(y, "worth 1;waits 1;moves 1;");
        }
        due("a good text", read(y, "worth 1;waits 1;moves 1;"), FULL);
        due("the tape stays", y.count(6), 24);
    }

    private static void promise04AFaultTakesNoNumber() {
        FirstColour x = new FirstColour();
        for (int t = 1; t < 6; t++) {
            due("a fault ahead of " + t, read(x, "worth 1;waits 1;moves 1"), -123);
            due("text " + t, read(x, "worth 1;waits 1;moves 1;"), t);
        }
    }

    private static void promise04EachTextStaysAsItWasRead() {
        FirstColour x = apart(1, HOUSE);
        for (int t = 1; t < 6; t++) {
            read(x, "worth " + t + " * 10;waits " + t + ";moves " + (t % 2) + ";");
        }
        for (int t = 5; t > 0; t--) {
            x.force(t);
            due("worth of " + t, x.asks(0, 0, 0, 0), t * 10);
            due("waits of " + t, x.asks(1, 0, 0, 0), t);
            due("moves of " + t, x.asks(2, 0, 0, 0), t % 2);
        }
    }

    private static void promise04FaultsLeaveNothingBehind() {
        FirstColour x = apart(1, HOUSE);
        String e = "1+1+1+1+1+1+1+1+1+1+1+1+1+1+1+1+1+1+1+1";
        for (int i = 0; i < 20; i++) {
            read(x, "worth " + e + ";waits " + e + ";moves 1?");
        }
        for (int t = 1; t < 6; t++) {
            due("text " + t, read(x, "worth " + e + ";waits " + e + "+1;moves 0;"), t);
            x.force(t);
            due("worth", x.asks(0, 0, 0, 0), 20);
            due("waits", x.asks(1, 0, 0, 0), 21);
            due("moves", x.asks(2, 0, 0, 0), 0);
        }
    }

    private static void promise04TheLongestTexts() {
        FirstColour x = apart(1, HOUSE);
        due("of ones", read(x, "worth " + "1+".repeat(68) + "1;waits 2;moves 3;"), 1);
        x.force(1);
        due("worth", x.asks(0, 0, 0, 0), 69);
        due("waits", x.asks(1, 0, 0, 0), 2);
        due("of products", read(x, "worth 0;waits 0;moves 7-7" + "*1".repeat(67) + ";"), 2);
        x.force(2);
        due("moves", x.asks(2, 0, 0, 0), 0);
        due("of deep ones", read(x, "worth 0 or 1 and 1 < 1 + 2 * (0 or 1 and 1 < 1 + 2 * (0 or 1 and 1 < 1 + 2 * "
                + "(0 or 1 and 1 < 1 + 2 * (0 or 1 and 1 < 1 + 2 * (7)))));waits 8;moves 1;"), 3);
        x.force(3);
        due("worth", x.asks(0, 0, 0, 0), 1);
        due("waits", x.asks(1, 0, 0, 0), 8);
    }

    private static void promise05ATextIsTheLaw() {
        FirstColour x = apart(1, HOUSE);
        for (int t = 1; t < 6; t++) {
            due("text " + t + " that isn't there", x.force(t), BAD);
            read(x, "worth " + t + ";waits 0;moves 0;");
            due("force(" + t + ")", x.force(t), t - 1);
            due("it is the law", x.count(5), t);
            due("by it", x.asks(0, 0, 0, 0), t);
        }
        due("force(6)", x.force(6), BAD);
        due("force(-1)", x.force(-1), BAD);
        due("force of the least", x.force(LEAST), BAD);
        due("force of the greatest", x.force(GREATEST), BAD);
        due("the law stays", x.count(5), 5);
        due("the same again", x.force(5), 5);
        due("force(0)", x.force(0), 5);
        due("force(0) again", x.force(0), 0);
    }

    private static void promise06LotsThatAreThere() {
        FirstColour x = apart(2, HOUSE);
        due("lot 0", x.asks(0, 0, 0, 0), 20);
        due("lot 1", x.asks(0, 1, 0, 0), 20);
        for (int l : new int[] {-1, 2, 7, LEAST, GREATEST}) {
            due("lot " + l, x.asks(0, l, 0, 0), NO_LOT);
        }
        due("of no lots", new FirstColour().asks(0, 0, 0, 0), NO_LOT);
    }

    private static void promise06PartColourAndOrder() {
        FirstColour x = apart(1, HOUSE);
        due("part 0", x.asks(0, 0, 11, 7), 0);
        due("part 1", x.asks(1, 0, 11, 7), 7);
        due("part 2", x.asks(2, 0, 11, 7), 1);
        due("colour 0, order 0", x.asks(0, 0, 0, 0), 20);
        for (int outside : new int[] {-1, LEAST, GREATEST}) {
            due("part " + outside, x.asks(outside, 0, 0, 0), UNFIT);
            due("colour " + outside, x.asks(0, 0, outside, 0), UNFIT);
            due("order " + outside, x.asks(0, 0, 0, outside), UNFIT);
        }
        due("part 3", x.asks(3, 0, 0, 0), UNFIT);
        due("colour 12", x.asks(0, 0, 12, 0), UNFIT);
        due("order 8", x.asks(0, 0, 0, 8), UNFIT);
    }

    private static void promise06NoSuchLotIsAheadOfTheOthers() {
        FirstColour x = apart(1, HOUSE);
        due("part", x.asks(3, 1, 0, 0), NO_LOT);
        due("colour", x.asks(0, 1, 12, 0), NO_LOT);
        due("order", x.asks(0, -1, 0, 8), NO_LOT);
    }

    // ---- lots

    private static void promise07KindAndMore() {
        for (int kind = 0; kind < 6; kind++) {
            FirstColour x = new FirstColour();
            due("kind " + kind, x.lot(kind, 0, 0), 0);
            due("told", x.told(0, 0), kind);
        }
        for (int more = 0; more < 10; more++) {
            FirstColour x = new FirstColour();
            due("more " + more, x.lot(HOUSE, more, 0), 0);
            due("told", x.told(0, 1), more);
        }
        FirstColour x = new FirstColour();
        for (int outside : new int[] {-1, LEAST, GREATEST}) {
            due("kind " + outside, x.lot(outside, 0, 0), BAD);
            due("more " + outside, x.lot(HOUSE, outside, 0), BAD);
        }
        due("kind 6", x.lot(6, 0, 0), BAD);
        due("more 10", x.lot(HOUSE, 10, 0), BAD);
        due("none came", x.count(0), 0);
    }

    private static void promise07OthersAreThere() {
        FirstColour x = new FirstColour();
        for (int l = 0; l < 7; l++) {
            due("itself", x.lot(HOUSE, 0, 1 << l), BAD);
            due("one more than all", x.lot(HOUSE, 0, (2 << l) - 1), BAD);
            due("far off", x.lot(HOUSE, 0, 1 << 30), BAD);
            due("below 0", x.lot(HOUSE, 0, -1), BAD);
            due("the least", x.lot(HOUSE, 0, LEAST), BAD);
            due("all that are there", x.lot(HOUSE, 0, (1 << l) - 1), l);
            due("beside", x.told(l, 2), (1 << l) - 1);
        }
        FirstColour y = apart(2, HOUSE);
        due("none", y.lot(HOUSE, 0, 0), 2);
        due("beside none", y.told(2, 2), 0);
        due("the second alone", y.lot(HOUSE, 0, 2), 3);
        due("beside it", y.told(3, 2), 2);
        due("not the first", y.told(0, 2), 0);
    }

    private static void promise07BadIsAheadOfFull() {
        FirstColour x = apart(7, HOUSE);
        due("kind", x.lot(6, 0, 0), BAD);
        due("more", x.lot(HOUSE, -1, 0), BAD);
        due("others", x.lot(HOUSE, 0, 128), BAD);
        due("good ones", x.lot(FOUNTAIN, 9, 127), FULL);
        due("still 7", x.count(0), 7);
        due("beside none", x.count(3), 0);
    }

    private static void promise08WhatIs0To4() {
        FirstColour x = new FirstColour();
        x.lot(SHY, 8, 0);
        x.lot(HIDDEN, 9, 1);
        x.paint(1, 11);
        int[] answers = {HIDDEN, 9, 1, 11, 1};
        for (int what = 0; what < 5; what++) {
            due("told(1, " + what + ")", x.told(1, what), answers[what]);
        }
        for (int what : new int[] {-1, 5, LEAST, GREATEST}) {
            due("told(1, " + what + ")", x.told(1, what), UNFIT);
        }
        due("colour of none", x.told(0, 3), NONE);
        due("when, none", x.told(0, 4), NONE);
    }

    private static void promise08NoSuchLotIsAheadOfWhat() {
        FirstColour x = apart(2, HOUSE);
        for (int l : new int[] {-1, 2, LEAST, GREATEST}) {
            due("lot " + l, x.told(l, 0), NO_LOT);
            due("lot " + l, x.told(l, 5), NO_LOT);
        }
        due("of no lots", new FirstColour().told(0, -1), NO_LOT);
    }

    private static void promise08CountsEachTimeAnyWasBuilt() {
        FirstColour x = apart(2, HOUSE);
        x.build(0);
        due("none ahead", x.told(0, 4), 1);
        for (int i = 0; i < 100; i++) {
            x.pull(0);
            x.build(0);
        }
        due("100 ahead", x.told(0, 4), 101);
        x.build(1);
        due("101 ahead", x.told(1, 4), 102);
        due("the other as before", x.told(0, 4), 101);
        x.pull(0);
        due("pulled down", x.told(0, 4), NONE);
    }

    private static void promise08PaintBuildsOnlyWhatWasNotBuilt() {
        FirstColour x = apart(3, HOUSE);
        x.paint(0, 1);
        x.paint(0, 2);
        x.paint(0, 3);
        due("the first", x.told(0, 4), 1);
        x.build(1);
        due("painted over, it is not built again", x.told(1, 4), 2);
        x.pull(0);
        x.paint(0, 1);
        due("built by paint", x.told(0, 4), 3);
        x.build(2);
        due("the fourth", x.told(2, 4), 4);
    }

    private static void promise08WhatWasUndoneByBackDoesNotCount() {
        FirstColour x = apart(3, HOUSE);
        x.build(0);
        x.image();
        x.build(1);
        x.paint(2, 0);
        x.back();
        x.build(2);
        due("one ahead", x.told(2, 4), 2);
        x.pull(0);
        x.build(0);
        due("two ahead", x.told(0, 4), 3);
    }

    private static void promise08WhatIsThoughtOfDoesNotCount() {
        FirstColour x = apart(3, HOUSE);
        row(x, 0, INTS, 0, 1, 2);
        x.paints(0, 0);
        x.drawn(3);
        x.order(0, 0);
        x.build(2);
        due("none ahead", x.told(2, 4), 1);
        x.raise(0);
        row(x, 0, INTS, 1, 0);
        x.raise(0);
        due("by raise, the first", x.told(1, 4), 2);
        due("by raise, the second", x.told(0, 4), 3);
    }

    // ---- building

    private static void promise09LotsThatAreThere() {
        FirstColour x = apart(2, HOUSE);
        for (int l : new int[] {-1, 2, LEAST, GREATEST}) {
            due("build(" + l + ")", x.build(l), NO_LOT);
        }
        due("build(0)", x.build(0), 0);
        due("build(1)", x.build(1), 0);
        due("of no lots", new FirstColour().build(0), NO_LOT);
    }

    private static void promise09StateIfItIsBuilt() {
        FirstColour x = path(2);
        due("not built", x.build(0), 0);
        due("built", x.build(0), STATE);
        due("as old as before", x.told(0, 4), 1);
        x.paint(1, 7);
        due("painted", x.build(1), STATE);
        due("its colour stays", x.told(1, 3), 7);
        x.pull(1);
        due("pulled down", x.build(1), 1);
    }

    private static void promise10BuiltOrNot() {
        FirstColour x = path(2);
        due("not built", x.would(1), 0);
        x.paint(0, 0);
        due("not built", x.would(1), 1);
        x.paint(1, 9);
        due("built", x.would(1), 1);
        due("the other, built", x.would(0), 0);
        due("it keeps its colour", x.told(1, 3), 9);
        for (int l : new int[] {-1, 2, LEAST, GREATEST}) {
            due("would(" + l + ")", x.would(l), NO_LOT);
        }
        due("of no lots", new FirstColour().would(0), NO_LOT);
    }

    private static void promise11PullsWhatIsThere() {
        FirstColour x = apart(2, HOUSE);
        due("none", x.pull(0), STATE);
        x.paint(0, 0);
        x.paint(1, 11);
        due("of colour 0", x.pull(0), 0);
        due("of colour 11", x.pull(1), 11);
        due("again", x.pull(1), STATE);
        due("built", x.count(1), 0);
        for (int l : new int[] {-1, 2, LEAST, GREATEST}) {
            due("pull(" + l + ")", x.pull(l), NO_LOT);
        }
        due("of no lots", new FirstColour().pull(0), NO_LOT);
    }

    private static void promise12ColoursAre0To11() {
        FirstColour x = apart(1, HOUSE);
        int had = NONE;
        for (int c = 0; c < 12; c++) {
            due("paint(0, " + c + ")", x.paint(0, c), had);
            had = c;
        }
        for (int c : new int[] {-1, 12, LEAST, GREATEST}) {
            due("paint(0, " + c + ")", x.paint(0, c), UNFIT);
        }
        due("its colour stays", x.told(0, 3), 11);
        x.pull(0);
        due("not built, 12", x.paint(0, 12), UNFIT);
        due("not built, -1", x.paint(0, -1), UNFIT);
        due("still not built", x.count(1), 0);
        due("it had none", x.paint(0, 0), NONE);
    }

    private static void promise12NoSuchLotIsAheadOfTheColour() {
        FirstColour x = apart(2, HOUSE);
        for (int l : new int[] {-1, 2, LEAST, GREATEST}) {
            due("paint(" + l + ", 0)", x.paint(l, 0), NO_LOT);
            due("paint(" + l + ", 12)", x.paint(l, 12), NO_LOT);
            due("paint(" + l + ", -1)", x.paint(l, -1), NO_LOT);
        }
    }

    // ---- lanes

    private static void noTwoLots(String name, long want, java.util.function.IntBinaryOperator call) {
        int[][] pairs = {{-1, 0}, {0, -1}, {3, 0}, {0, 3}, {2, 3}, {3, 3}, {-1, -1}, {0, 0}, {2, 2},
            {LEAST, 1}, {1, GREATEST}};
        for (int[] p : pairs) {
            due(name + "(" + p[0] + ", " + p[1] + ")", call.applyAsInt(p[0], p[1]), want);
        }
    }

    private static void promise13TwoLotsThatAreThereAndUnlike() {
        FirstColour x = apart(3, HOUSE);
        noTwoLots("lane", NO_LOT, x::lane);
        due("no lane came", x.count(3), 0);
        due("lane(0, 2)", x.lane(0, 2), 0);
        due("lane(2, 1)", x.lane(2, 1), 0);
        due("two lanes came", x.count(3), 2);
    }

    private static void promise13StateIfTheyAreBesideEachOther() {
        FirstColour x = apart(3, HOUSE);
        buildAll(x);
        due("lane(0, 1)", x.lane(0, 1), 1);
        due("again", x.lane(0, 1), STATE);
        due("the other way", x.lane(1, 0), STATE);
        due("one lane", x.count(3), 1);
        x.close(0, 1);
        due("closed", x.lane(1, 0), 0);
    }

    private static void promise14TwoLotsThatAreThereAndUnlike() {
        FirstColour x = close(3, HOUSE);
        noTwoLots("close", NO_LOT, x::close);
        due("all pairs stay", x.count(3), 3);
        due("close(0, 2)", x.close(0, 2), 1);
        due("close(2, 0)", x.close(2, 0), 0);
        due("close(2, 1)", x.close(2, 1), 1);
        due("close(1, 2)", x.close(1, 2), 0);
        due("one pair stays", x.count(3), 1);
        due("lot 0", x.told(0, 2), 2);
        due("lot 1", x.told(1, 2), 1);
        due("lot 2", x.told(2, 2), 0);
    }

    private static void promise15WhatIs0To2() {
        FirstColour x = apart(3, HOUSE);
        x.build(1);
        x.build(2);
        due("idle(0)", x.idle(0), 2);
        due("idle(1)", x.idle(1), 12);
        due("idle(2)", x.idle(2), 1);
        for (int what : new int[] {-1, 3, LEAST, GREATEST}) {
            due("idle(" + what + ")", x.idle(what), BAD);
        }
    }

    private static void promise15NobodyMovesByAny() {
        FirstColour x = apart(7, HOUSE);
        due("idle(0), none built", x.idle(0), 21);
        due("idle(1), none built", x.idle(1), NONE);
        due("idle(2), none built", x.idle(2), 0);
        FirstColour y = close(7, FOUNTAIN);
        buildAll(y);
        due("idle(0), no lane could be", y.idle(0), 0);
        due("idle(1), no lane could be", y.idle(1), NONE);
        due("idle(2), no lane could be", y.idle(2), 0);
        due("idle(1), of no lots", new FirstColour().idle(1), NONE);
    }

    private static void promise15OfLikeOnesTheFirst() {
        FirstColour x = apart(7, HOUSE);
        buildAll(x);
        due("all alike", x.idle(1), 1);
        due("none is idle", x.idle(0), 0);
        x.pull(0);
        due("from lot 1 on", x.idle(1), 12);
        due("six are idle", x.idle(0), 6);
        for (int l = 1; l < 5; l++) {
            x.pull(l);
        }
        due("the last pair", x.idle(1), 56);
        due("all others are idle", x.idle(0), 20);
    }

    private static void promise15TheMostOftenIsTold() {
        // Between 0 and 1 a house moves once; between 2 and 3 fountains move 20 times.
        FirstColour x = apart(2, HOUSE);
        x.lot(FOUNTAIN, 0, 0);
        x.lot(FOUNTAIN, 0, 0);
        x.paint(0, 1);
        x.paint(1, 1);
        x.paint(2, 0);
        x.paint(3, 0);
        due("idle(1)", x.idle(1), 23);
        due("idle(2)", x.idle(2), 20);
        due("idle(0)", x.idle(0), 4);
    }

    // ---- orders

    private static void promise16SortAndWhat() {
        FirstColour x = path(4);
        due("fewest", x.order(0, 0), 2);
        due("by", x.order(0, 1), 1234);
        due("most", x.order(1, 0), 3);
        due("by", x.order(1, 1), 1243);
        for (int outside : new int[] {-1, 2, LEAST, GREATEST}) {
            due("sort " + outside, x.order(outside, 0), BAD);
            due("what " + outside, x.order(0, outside), BAD);
            due("both " + outside, x.order(outside, outside), BAD);
        }
    }

    private static void promise16NoneIsNotBuilt() {
        for (int sort = 0; sort < 2; sort++) {
            due("of no lots, how many", new FirstColour().order(sort, 0), 0);
            due("of no lots", new FirstColour().order(sort, 1), 0);
            FirstColour x = path(3);
            buildAll(x);
            due("all built, how many", x.order(sort, 0), 2);
            due("all built", x.order(sort, 1), 0);
            x.pull(2);
            due("one isn't, how many", x.order(sort, 0), 2);
            due("one isn't", x.order(sort, 1), 3);
        }
    }

    private static void promise16OfLikeOnesTheFirst() {
        FirstColour x = apart(7, HOUSE);
        due("fewest of seven", x.order(0, 1), 1234567);
        due("most of seven", x.order(1, 1), 1234567);
        FirstColour y = close(7, HOUSE);
        due("fewest", y.order(0, 0), 7);
        due("most", y.order(1, 0), 7);
        due("by the first", y.order(0, 1), 1234567);
    }

    private static void promise16AnOrderThatIsNotTheFirst() {
        // A fountain behind a house is white as that is; ahead of it, the house isn't.
        FirstColour x = new FirstColour();
        x.lot(FOUNTAIN, 0, 0);
        x.lot(HOUSE, 0, 1);
        due("fewest: the second first", x.order(0, 1), 21);
        due("how many", x.order(0, 0), 1);
        due("most: the first first", x.order(1, 1), 12);
        due("how many", x.order(1, 0), 2);
    }

    private static void promise16ColoursOfAllThatIsBuiltCount() {
        FirstColour x = apart(3, HOUSE);
        x.paint(0, 5);
        x.paint(1, 6);
        due("two and one", x.order(0, 0), 3);
        x.paint(1, 0);
        due("one is alike", x.order(1, 0), 2);
    }

    private static void promise17FromNoneToSeven() {
        due("no lots", new FirstColour().fewest(), 0);
        for (int lots = 1; lots <= 7; lots++) {
            due("apart", apart(lots, HOUSE).fewest(), 1);
            due("close", close(lots, HOUSE).fewest(), lots);
            due("path", path(lots).fewest(), lots == 1 ? 1 : 2);
            if (lots > 2) {
                FirstColour ring = path(lots);
                ring.lane(0, lots - 1);
                due("ring of " + lots, ring.fewest(), lots % 2 == 0 ? 2 : 3);
            }
        }
    }

    private static void promise17KindsAndWhatIsBuiltDoNotMatter() {
        FirstColour x = new FirstColour();
        x.lot(FOUNTAIN, 0, 0);
        x.lot(PROUD, 9, 1);
        x.lot(HIDDEN, 3, 3);
        due("none built", x.fewest(), 3);
        x.paint(0, 7);
        x.paint(1, 7);
        due("two alike", x.fewest(), 3);
        x.pull(0);
        x.close(0, 1);
        due("not all beside", x.fewest(), 2);
    }

    private static void promise18ASheetThatIsThere() {
        FirstColour x = path(2);
        row(x, 0, BYTES, 1, 0);
        row(x, 3, INTS, 0, 1);
        due("sheet 0", x.paints(0, 0), 2);
        due("sheet 3", x.paints(3, 0), 2);
        due("missing", x.paints(1, 0), NOTHING);
        for (int s : new int[] {-1, 4, LEAST, GREATEST}) {
            due("sheet " + s, x.paints(s, 0), BAD);
        }
    }

    /** Orders for four lots, of which lot 2 is built: lots 0, 1 and 3 are to be told. */
    private static final int[][] BAD_ORDERS = {{}, {0}, {0, 1}, {0, 1, 3, 3}, {0, 1, 3, 2}, {0, 1, 2}, {0, 1, 1},
        {0, 0, 3}, {0, 1, 4}, {0, 1, 7}, {0, 1, -1}, {-1, 1, 3}, {0, 1, 35}, {32, 1, 3}, {0, 1, 3, 0}, {0, 1, 3, -1},
        {0, 1, GREATEST}, {LEAST, 1, 3}};

    private static FirstColour threeToTell() {
        FirstColour x = path(4);
        x.paint(2, 3);
        return x;
    }

    private static void promise18EachLotThatIsNotBuiltOnceAndNoOthers() {
        for (int[] order : BAD_ORDERS) {
            FirstColour x = threeToTell();
            row(x, 0, INTS, order);
            due("paints of " + java.util.Arrays.toString(order), x.paints(0, 0), BAD);
        }
        int[][] good = {{0, 1, 3}, {0, 3, 1}, {1, 0, 3}, {1, 3, 0}, {3, 0, 1}, {3, 1, 0}};
        for (int[] order : good) {
            for (int sort = BYTES; sort <= INTS; sort++) {
                FirstColour x = threeToTell();
                row(x, 0, sort, order);
                due("paints of " + java.util.Arrays.toString(order), x.paints(0, 0), 3);
            }
        }
    }

    private static void promise18WhatIs0ToTheNumberOfLots() {
        FirstColour x = threeToTell();
        row(x, 0, INTS, 1, 0, 3);
        int[] answers = {3, 1, 0, 3, 0};
        for (int what = 0; what < 5; what++) {
            due("what " + what, x.paints(0, what), answers[what]);
        }
        for (int what : new int[] {-1, 5, 8, LEAST, GREATEST}) {
            due("what " + what, x.paints(0, what), UNFIT);
        }
        FirstColour y = apart(7, HOUSE);
        row(y, 0, INTS, 6, 5, 4, 3, 2, 1, 0);
        due("what 7 of seven", y.paints(0, 7), 0);
        due("what 8 of seven", y.paints(0, 8), UNFIT);
        FirstColour z = new FirstColour();
        z.sheet(0, INTS, 0);
        due("what 0 of none", z.paints(0, 0), 0);
        due("what 1 of none", z.paints(0, 1), UNFIT);
    }

    private static void promise18TheFirstRefusalIsTold() {
        FirstColour x = path(2);
        row(x, 0, INTS, 0);
        due("sheet ahead of what", x.paints(4, 9), BAD);
        due("missing ahead of what", x.paints(1, 9), NOTHING);
        due("others ahead of what", x.paints(0, 9), BAD);
    }

    private static void promise18AllIsBuilt() {
        FirstColour x = path(3);
        buildAll(x);
        x.sheet(0, INTS, 0);
        due("how many", x.paints(0, 0), 2);
        due("lot 1", x.paints(0, 2), 1);
        row(x, 0, INTS, 0);
        due("one told", x.paints(0, 0), BAD);
    }

    private static void promise19RefusalsLikewise() {
        FirstColour x = threeToTell();
        row(x, 0, INTS, 0, 1, 3);
        for (int s : new int[] {-1, 4, LEAST, GREATEST}) {
            due("sheet " + s, x.raise(s), BAD);
        }
        due("missing", x.raise(1), NOTHING);
        for (int[] order : BAD_ORDERS) {
            row(x, 3, INTS, order);
            due("raise of " + java.util.Arrays.toString(order), x.raise(3), BAD);
            due("none came", x.count(1), 4);
        }
    }

    private static void promise19AllIsTrulyBuilt() {
        FirstColour x = threeToTell();
        row(x, 0, SHORTS, 3, 1, 0);
        due("how many", x.raise(0), 3);
        int[] colours = {1, 0, 3, 0};
        int[] when = {4, 3, 1, 2};
        for (int l = 0; l < 4; l++) {
            due("colour of " + l, x.told(l, 3), colours[l]);
            due("when, " + l, x.told(l, 4), when[l]);
        }
        due("none is left to tell", x.raise(0), BAD);
        x.sheet(0, SHORTS, 0);
        due("of none", x.raise(0), 3);
        FirstColour y = new FirstColour();
        y.sheet(0, BYTES, 0);
        due("of no lots", y.raise(0), 0);
    }

    private static void promise20TheOrderOfRefusals() {
        FirstColour x = path(3);
        row(x, 0, INTS, 0, 2);
        row(x, 1, INTS, 0, 1, 2);
        due("no lot ahead of all", x.when(3, 4, 2), NO_LOT);
        due("no lot", x.when(-1, 0, 0), NO_LOT);
        due("no lot", x.when(GREATEST, 0, 0), NO_LOT);
        due("no lot", x.when(LEAST, 0, 0), NO_LOT);
        due("sheet 4 ahead of what", x.when(1, 4, 2), BAD);
        due("sheet -1 ahead of what", x.when(1, -1, 2), BAD);
        due("missing ahead of what", x.when(1, 2, 2), NOTHING);
        due("this lot told, ahead of what", x.when(1, 1, 2), BAD);
        due("another left out, ahead of what", x.when(0, 0, 2), BAD);
        due("what 2", x.when(1, 0, 2), UNFIT);
        due("what -1", x.when(1, 0, -1), UNFIT);
        due("what 0", x.when(1, 0, 0), 0);
        due("what 1", x.when(1, 0, 1), 20);
        x.build(1);
        due("built ahead of the sheet", x.when(1, 4, 2), STATE);
        due("built ahead of missing", x.when(1, 2, 0), STATE);
        due("no lot ahead of built", x.when(3, 0, 0), NO_LOT);
    }

    private static void promise20AllOthersAreToldOnce() {
        for (int[] order : new int[][] {{}, {0}, {0, 0}, {0, 2}, {0, 1}, {0, 3, 3}, {0, 3, 1}, {0, 3, 2}, {0, 4},
            {0, -1}, {0, 35}}) {
            FirstColour x = threeToTell();
            row(x, 0, INTS, order);
            due("when by " + java.util.Arrays.toString(order), x.when(1, 0, 0), BAD);
        }
        FirstColour x = threeToTell();
        row(x, 0, INTS, 3, 0);
        due("a good one", x.when(1, 0, 0), 0);
    }

    private static void promise20NIs0ToAllOthers() {
        FirstColour x = apart(7, HOUSE);
        row(x, 0, INTS, 6, 5, 4, 2, 1, 0);
        enforce(x, "worth order;waits 0;moves 1;");
        due("behind all", x.when(3, 0, 0), 6);
        due("that", x.when(3, 0, 1), 6);
        enforce(x, "worth 50;waits order;moves 1;");
        due("ahead of all", x.when(3, 0, 0), 0);
        due("that", x.when(3, 0, 1), 50);
        enforce(x, "worth order = 4;waits 0;moves 1;");
        due("behind four", x.when(3, 0, 0), 4);
        FirstColour y = apart(1, HOUSE);
        y.sheet(0, INTS, 0);
        due("no others", y.when(0, 0, 0), 0);
        due("that", y.when(0, 0, 1), 20);
    }

    private static void promise20OfLikeOnesTheFirst() {
        FirstColour x = apart(3, HOUSE);
        row(x, 0, INTS, 0, 2);
        enforce(x, "worth 5;waits 5;moves 1;");
        due("all alike", x.when(1, 0, 0), 0);
        due("that", x.when(1, 0, 1), 0);
        enforce(x, "worth 0 < order;waits 0;moves 1;");
        due("1 and 2 alike", x.when(1, 0, 0), 1);
    }

    private static void promise20ItMayBeBelow0() {
        FirstColour x = apart(2, HOUSE);
        row(x, 0, INTS, 1);
        enforce(x, "worth 0;waits 999;moves 1;");
        due("the least", x.when(0, 0, 1), -99);
        due("n", x.when(0, 0, 0), 0);
        enforce(x, "worth 999;waits -1;moves 1;");
        due("the most", x.when(0, 0, 1), 99);
    }

    private static void promise20ByItsColourBehindTheFirstN() {
        FirstColour x = path(3);
        row(x, 0, INTS, 0, 2);
        enforce(x, "worth colour * 20;waits order;moves 1;");
        due("behind one", x.when(1, 0, 0), 1);
        due("that", x.when(1, 0, 1), 19);
        due("nothing is built", x.count(1), 0);
    }

    private static void promise21RuleAndWhat() {
        FirstColour x = path(3);
        int[] orders = {123, 213, 132};
        for (int rule = 0; rule < 3; rule++) {
            due("rule " + rule, x.rule(rule, 1), orders[rule]);
            due("rule " + rule + ", how many", x.rule(rule, 0), 2);
        }
        for (int outside : new int[] {-1, 3, LEAST, GREATEST}) {
            due("rule " + outside, x.rule(outside, 0), BAD);
            due("what " + outside, x.rule(0, outside), BAD);
        }
        due("what 2", x.rule(0, 2), BAD);
    }

    private static void promise21NoneIsNotBuilt() {
        FirstColour x = path(3);
        buildAll(x);
        for (int rule = 0; rule < 3; rule++) {
            due("all built", x.rule(rule, 1), 0);
            due("all built, how many", x.rule(rule, 0), 2);
            due("no lots", new FirstColour().rule(rule, 1), 0);
            due("no lots, how many", new FirstColour().rule(rule, 0), 0);
        }
    }

    private static void promise21OfLikeOnesByNumbers() {
        for (int rule = 0; rule < 3; rule++) {
            due("beside none", apart(7, HOUSE).rule(rule, 1), 1234567);
            due("beside all", close(7, HOUSE).rule(rule, 1), 1234567);
        }
        FirstColour x = apart(6, HOUSE);
        x.lot(HOUSE, 0, 63);
        due("the last beside most", x.rule(1, 1), 7123456);
        due("the last behind all", x.rule(2, 1), 1234567);
    }

    private static void promise21BesideWhatIsBuiltToo() {
        FirstColour x = apart(3, HOUSE);
        x.lot(HOUSE, 0, 4);
        x.lot(HOUSE, 0, 4);
        x.build(2);
        due("most first", x.rule(1, 1), 4512);
        due("fewest first", x.rule(2, 1), 1245);
    }

    private static void promise22NoSuchTwo() {
        FirstColour x = apart(3, HOUSE);
        noTwoLots("ahead", -100000, x::ahead);
        due("ahead(0, 2)", x.ahead(0, 2), 0);
        due("ahead(2, 1)", x.ahead(2, 1), 0);
        due("of no lots", new FirstColour().ahead(0, 1), -100000);
    }

    private static void promise22AnyOfThemIsBuilt() {
        FirstColour x = apart(3, HOUSE);
        x.build(1);
        due("the first", x.ahead(1, 0), -100000);
        due("the second", x.ahead(0, 1), -100000);
        due("neither", x.ahead(0, 2), 0);
        x.build(2);
        due("both", x.ahead(1, 2), -100000);
    }

    private static void promise22OrderIsHowManyAreBuiltInItAhead() {
        FirstColour x = apart(7, HOUSE);
        enforce(x, "worth order * 10;waits 0;moves 1;");
        due("first to last", x.ahead(0, 6), 60);
        due("last to first", x.ahead(6, 0), -60);
        due("neighbours", x.ahead(3, 4), 10);
        x.build(0);
        x.build(1);
        due("those built before do not count", x.ahead(2, 6), 40);
        enforce(x, "worth order * 100;waits 0;moves 1;");
        due("from 0 to the bound", x.ahead(2, 3), 99);
        due("from the bound to 0", x.ahead(3, 2), -99);
        due("the bound both times", x.ahead(3, 4), 0);
    }

    private static void promise22OthersKeepTheirPlaces() {
        // By numbers lot 2 is built behind 0 and 1; changed with 0, ahead of both.
        FirstColour x = apart(2, HOUSE);
        x.lot(HOUSE, 0, 3);
        enforce(x, "worth colour * 10 + order;waits 0;moves 1;");
        due("ahead of both", x.ahead(2, 0), -12);
        due("between them", x.ahead(2, 1), -1);
        due("the other's", x.ahead(0, 2), 12);
    }

    private static void promise22WhatIsBehindItIsNotBuilt() {
        // By numbers the fountain comes behind lot 0; changed with lot 2, ahead of it, and white.
        FirstColour x = apart(1, HOUSE);
        x.lot(FOUNTAIN, 0, 1);
        x.lot(HOUSE, 0, 0);
        due("behind the fountain", x.ahead(0, 2), -4);
    }

    // ---- how it was built

    private static void promise23What() {
        FirstColour x = path(2);
        x.paint(0, 1);
        x.paint(1, 0);
        due("how many", x.built(0), 1);
        due("the first", x.built(1), 21);
        for (int what : new int[] {-1, 2, LEAST, GREATEST}) {
            due("built(" + what + ")", x.built(what), BAD);
        }
    }

    private static void promise23NothingIsBuilt() {
        due("no lots, how many", new FirstColour().built(0), 1);
        due("no lots", new FirstColour().built(1), 0);
        FirstColour x = path(3);
        due("none built, how many", x.built(0), 1);
        due("none built", x.built(1), 0);
        x.build(2);
        due("one built, how many", x.built(0), 1);
        due("one built", x.built(1), 3);
    }

    private static void promise23NoneFits() {
        FirstColour x = path(2);
        x.paint(1, 1);
        due("how many", x.built(0), 0);
        due("the first", x.built(1), NONE);
        due("what 2 all the same", x.built(2), BAD);
    }

    private static void promise23TheFirstThatFitsToItsEnd() {
        // Lot 0 would fit as the first, but no order goes on from there.
        FirstColour x = apart(1, FOUNTAIN);
        x.lot(HOUSE, 0, 1);
        x.paint(0, 0);
        x.paint(1, 0);
        due("how many", x.built(0), 1);
        due("the first", x.built(1), 21);
    }

    private static void promise23AnewEachTime() {
        FirstColour x = path(2);
        x.paint(0, 0);
        x.paint(1, 1);
        due("lot 0 first", x.built(1), 12);
        x.paint(0, 1);
        x.paint(1, 0);
        due("lot 1 first", x.built(1), 21);
        due("fewest, from new", x.fewest(), 2);
        x.pull(0);
        due("one left", x.built(1), 2);
        due("fewest, from new", x.fewest(), 2);
    }

    private static void promise23AllFit() {
        FirstColour x = apart(7, HOUSE);
        buildAll(x);
        due("how many", x.built(0), 5040);
        due("the first", x.built(1), 1234567);
        FirstColour y = close(7, HOUSE);
        for (int l = 6; l >= 0; l--) {
            y.build(l);
        }
        due("one alone", y.built(0), 1);
        due("the last of all", y.built(1), 7654321);
    }

    private static void promise24IfAnyFitsNobody() {
        due("no lots", new FirstColour().blame(), 0);
        FirstColour x = path(3);
        due("none built", x.blame(), 0);
        buildAll(x);
        due("as built", x.blame(), 0);
    }

    private static void promise24IfJustOneFitsNobody() {
        FirstColour x = close(7, HOUSE);
        buildAll(x);
        due("by numbers", x.built(0), 1);
        due("nobody", x.blame(), 0);
        FirstColour y = path(2);
        y.paint(0, 1);
        y.paint(1, 0);
        due("the second first", y.blame(), 0);
        FirstColour z = apart(1, FOUNTAIN);
        z.lot(HOUSE, 0, 1);
        z.paint(0, 0);
        z.paint(1, 0);
        due("the house ahead of the fountain", z.blame(), 0);
    }

    private static void promise24EachThatAloneWouldDo() {
        FirstColour x = path(2);
        x.paint(0, 0);
        x.paint(1, 0);
        due("either", x.blame(), 3);
        FirstColour y = apart(7, HOUSE);
        buildAll(y);
        y.paint(6, 11);
        due("the last", y.blame(), 64);
        y.paint(6, 0);
        y.paint(0, 11);
        due("the first", y.blame(), 1);
        y.paint(6, 11);
        due("two are too many", y.blame(), 0);
        y.pull(6);
        due("one is pulled down", y.blame(), 1);
    }

    // ---- maps

    private static void promise25Refusals() {
        FirstColour x = path(3);
        row(x, 0, INTS, -1, -1);
        row(x, 1, INTS, -1, -1, -1);
        row(x, 3, INTS, -1, -1, -1, -1);
        for (int s : new int[] {-1, 4, LEAST, GREATEST}) {
            due("sheet " + s, x.judge(s), BAD);
        }
        due("missing", x.judge(2), NOTHING);
        due("one too few", x.judge(0), BAD);
        due("just so many", x.judge(1), NONE);
        due("one too many", x.judge(3), BAD);
        FirstColour y = new FirstColour();
        y.sheet(0, BYTES, 0);
        due("no lots", y.judge(0), NONE);
        y.sheet(0, BYTES, 1);
        due("no lots, one told", y.judge(0), BAD);
        FirstColour z = apart(7, HOUSE);
        row(z, 0, BYTES, -1, -1, -1, -1, -1, -1, -1);
        due("seven", z.judge(0), NONE);
        z.sheet(0, BYTES, 40);
        due("forty", z.judge(0), BAD);
    }

    private static void promise25TheFirstThatIsOtherwise() {
        for (int sort = BYTES; sort <= INTS; sort++) {
            FirstColour x = apart(7, HOUSE);
            x.paint(0, 0);
            x.paint(1, 11);
            x.paint(6, 5);
            row(x, 0, sort, 0, 11, -1, -1, -1, -1, 5);
            due("none", x.judge(0), NONE);
            x.cell(0, 6, 4);
            due("the last", x.judge(0), 6);
            x.cell(0, 5, 0);
            due("one that is not built", x.judge(0), 5);
            x.cell(0, 1, -1);
            due("one that is built", x.judge(0), 1);
            x.cell(0, 0, 1);
            due("the first", x.judge(0), 0);
        }
    }

    private static void promise26TheOrderOfRefusals() {
        FirstColour x = path(2);
        row(x, 0, INTS, 0, 1);
        row(x, 1, INTS, 0);
        row(x, 3, INTS, 0, 1, 0);
        for (int s : new int[] {-1, 4, LEAST, GREATEST}) {
            due("sheet " + s, x.plans(s, 0), BAD);
            due("sheet " + s + " ahead of what", x.plans(s, 2), BAD);
        }
        due("missing ahead of what", x.plans(2, 2), NOTHING);
        due("too few ahead of what", x.plans(1, 2), BAD);
        due("too many ahead of what", x.plans(3, 2), BAD);
        for (int what : new int[] {-1, 2, LEAST, GREATEST}) {
            due("what " + what, x.plans(0, what), UNFIT);
        }
        due("what 0", x.plans(0, 0), 1);
        due("what 1", x.plans(0, 1), 12);
        // No order at all comes behind the refusal of a number.
        row(x, 0, INTS, 5, 5);
        due("what 2, none", x.plans(0, 2), UNFIT);
        due("what 1, none", x.plans(0, 1), NONE);
        due("what 0, none", x.plans(0, 0), 0);
    }

    private static void promise26AllIsBuilt() {
        FirstColour x = path(3);
        buildAll(x);
        row(x, 0, INTS, 0, 1, 0);
        due("how many", x.plans(0, 0), 1);
        due("the first", x.plans(0, 1), 0);
        row(x, 0, INTS, 0, 1, 1);
        due("otherwise, how many", x.plans(0, 0), 0);
        due("otherwise", x.plans(0, 1), NONE);
        FirstColour y = new FirstColour();
        y.sheet(0, INTS, 0);
        due("no lots, how many", y.plans(0, 0), 1);
        due("no lots", y.plans(0, 1), 0);
    }

    private static void promise26WhatIsBuiltStaysAsItIs() {
        FirstColour x = path(3);
        x.paint(1, 5);
        row(x, 0, INTS, 0, 5, 0);
        due("as it is", x.plans(0, 0), 2);
        due("the first", x.plans(0, 1), 13);
        row(x, 0, INTS, 0, 1, 0);
        due("otherwise", x.plans(0, 0), 0);
        row(x, 0, INTS, 0, -1, 0);
        due("told not built", x.plans(0, 0), 0);
        due("told not built", x.plans(0, 1), NONE);
    }

    private static void promise26ColoursThatCanNotBe() {
        for (int c : new int[] {-1, -2, 12, 31, 32, 33, 64, LEAST, GREATEST}) {
            FirstColour x = apart(2, HOUSE);
            row(x, 0, INTS, 0, c);
            due("colour " + c + ", how many", x.plans(0, 0), 0);
            due("colour " + c, x.plans(0, 1), NONE);
            x.build(1);
            due("built, colour " + c, x.plans(0, 0), 0);
        }
    }

    private static void promise26AllOrders() {
        FirstColour x = apart(7, HOUSE);
        row(x, 0, BYTES, 0, 0, 0, 0, 0, 0, 0);
        due("how many", x.plans(0, 0), 5040);
        due("the first", x.plans(0, 1), 1234567);
        FirstColour y = close(7, HOUSE);
        row(y, 0, BYTES, 6, 5, 4, 3, 2, 1, 0);
        due("one alone", y.plans(0, 0), 1);
        due("the last of all", y.plans(0, 1), 7654321);
    }

    private static void promise27ASheetBecomesWhatIsThere() {
        for (int s = 0; s < 4; s++) {
            FirstColour x = apart(7, HOUSE);
            x.paint(0, 11);
            x.paint(6, 0);
            due("film(" + s + ")", x.film(s), 7);
            due("as it is", x.judge(s), NONE);
            due("the last place", x.cell(s, 6, 1), 1);
            due("behind it", x.cell(s, 7, 0), OUTSIDE);
            due("as it was", x.judge(s), 6);
        }
        FirstColour x = apart(2, HOUSE);
        for (int s : new int[] {-1, 4, LEAST, GREATEST}) {
            due("film(" + s + ")", x.film(s), BAD);
        }
        FirstColour y = new FirstColour();
        due("of no lots", y.film(0), 0);
        due("it is there", y.judge(0), NONE);
        due("it is empty", y.cell(0, 0, 0), OUTSIDE);
    }

    private static void promise27ItIsOfInts() {
        for (int sort = BYTES; sort <= INTS; sort++) {
            FirstColour x = apart(2, HOUSE);
            x.sheet(0, sort, 40);
            x.film(0);
            due("bytes", x.lotsBy(0, BYTES, 0, 0), OTHER);
            due("shorts", x.lotsBy(0, SHORTS, 0, 0), OTHER);
            due("ints", x.lotsBy(0, INTS, 0, 0), 0);
            due("as long as lots", x.cell(0, 2, 0), OUTSIDE);
            due("not built", x.judge(0), NONE);
        }
    }

    private static void promise28ManyIs0To20() {
        FirstColour x = apart(2, FOUNTAIN);
        buildAll(x);
        read(x, "worth 0;waits 0;moves 0;");
        read(x, "worth 0;waits 0;moves lot = 1;");
        due("0 times", x.laws(0, 1, 0), 2);
        due("20 times", x.laws(0, 1, 20), 5);
        for (int many = 1; many < 20; many++) {
            due(many + " times", x.laws(0, 1, many), 0);
        }
        for (int many : new int[] {-1, 21, LEAST, GREATEST}) {
            due(many + " times", x.laws(0, 1, many), UNFIT);
        }
    }

    private static void promise28RefusalsAsOfLaneAheadOfMany() {
        FirstColour x = apart(3, HOUSE);
        noTwoLots("laws, 0", NO_LOT, (a, b) -> x.laws(a, b, 0));
        noTwoLots("laws, 21", NO_LOT, (a, b) -> x.laws(a, b, 21));
        x.lane(0, 1);
        due("beside", x.laws(0, 1, 0), STATE);
        due("beside, ahead of many", x.laws(1, 0, 21), STATE);
        due("not beside", x.laws(0, 2, 21), UNFIT);
    }

    private static void promise28AllTextsAreTried() {
        FirstColour x = apart(2, HOUSE);
        buildAll(x);
        due("one text", x.laws(0, 1, 1), 1);
        for (int t = 1; t < 6; t++) {
            read(x, "worth 0;waits 0;moves " + t % 2 + ";");
        }
        due("six texts, once", x.laws(0, 1, 1), 1 | 2 | 8 | 32);
        due("six texts, never", x.laws(0, 1, 0), 4 | 16);
        x.force(2);
        due("whichever is the law", x.laws(0, 1, 1), 1 | 2 | 8 | 32);
        due("the law stays", x.count(5), 2);
    }

    // ---- orders by lot

    /** How many colours come when all that isn't built is drawn, step by step. */
    private static int drawnByHand(Scene scene, int seed) {
        FirstColour x = scene.made();
        long lot = seed + 1L;
        for (int m = x.count(0) - Integer.bitCount(x.count(1)); m > 0; m--) {
            lot = lot * 48271L % 2147483647L;
            int left = (int) (lot % m);
            for (int l = 0; l < x.count(0); l++) {
                if (x.told(l, 3) < 0 && left-- == 0) {
                    x.build(l);
                    break;
                }
            }
        }
        return x.count(2);
    }

    private static FirstColour pathWithOneBuilt() {
        FirstColour x = path(7);
        x.paint(3, 2);
        return x;
    }

    private static void promise29SeedsAre0To99999() {
        FirstColour x = path(7);
        for (int seed : new int[] {0, 1, 2, 7, 99, 44487, 44488, 99998, 99999}) {
            due("drawn(" + seed + ")", x.drawn(seed), drawnByHand(() -> path(7), seed));
            due("one built, drawn(" + seed + ")", pathWithOneBuilt().drawn(seed),
                    drawnByHand(BoundaryTests::pathWithOneBuilt, seed));
        }
        for (int seed : new int[] {-1, 100000, LEAST, GREATEST}) {
            due("drawn(" + seed + ")", x.drawn(seed), BAD);
        }
    }

    private static void promise29NothingIsLeftToDraw() {
        due("no lots", new FirstColour().drawn(0), 0);
        FirstColour x = path(3);
        buildAll(x);
        due("all built", x.drawn(99999), 2);
        x.pull(2);
        due("one is left", x.drawn(99999), 2);
    }

    private static void promise30SeedsNAndPart() {
        FirstColour x = path(7);
        long no = FirstColour.NO;
        for (int seed : new int[] {-1, 100000, LEAST, GREATEST}) {
            due("seed " + seed, x.odds(seed, 1, 7, 0), no);
        }
        due("seed 0", x.odds(0, 1, 7, 0), 1);
        due("seed 99999", x.odds(99999, 1, 7, 0), 1);
        for (int seeds : new int[] {0, 41, -1, LEAST, GREATEST}) {
            due(seeds + " seeds", x.odds(0, seeds, 7, 0), no);
        }
        due("1 seed", x.odds(0, 1, 7, 1), 1);
        due("40 seeds", x.odds(0, 40, 7, 1), 1);
        for (int n : new int[] {-1, 8, LEAST, GREATEST}) {
            due("n " + n, x.odds(0, 1, n, 0), no);
        }
        due("n 0", x.odds(0, 1, 0, 0), 0);
        due("n 7", x.odds(0, 1, 7, 0), 1);
        for (int part : new int[] {-1, 2, LEAST, GREATEST}) {
            due("part " + part, x.odds(0, 1, 7, part), no);
        }
    }

    private static void oddsByHand(int seed, int seeds, int n) {
        int hits = 0;
        for (int i = 0; i < seeds; i++) {
            hits += drawnByHand(() -> path(6), seed + i) <= n ? 1 : 0;
        }
        int divisor = java.math.BigInteger.valueOf(hits).gcd(java.math.BigInteger.valueOf(seeds)).intValue();
        String call = "odds(" + seed + ", " + seeds + ", " + n;
        due(call + ", 0)", path(6).odds(seed, seeds, n, 0), hits / divisor);
        due(call + ", 1)", path(6).odds(seed, seeds, n, 1), seeds / divisor);
    }

    private static void promise30InLowestTerms() {
        for (int seeds = 1; seeds <= 40; seeds++) {
            oddsByHand(5, seeds, 2);
        }
        FirstColour x = path(6);
        due("all, above", x.odds(5, 40, 3, 0), 1);
        due("all, below", x.odds(5, 40, 3, 1), 1);
        due("none, above", x.odds(5, 40, 1, 0), 0);
        due("none, below", x.odds(5, 40, 1, 1), 1);
    }

    private static void promise30SeedsMayPass99999() {
        for (int seeds : new int[] {1, 2, 3, 7, 39, 40}) {
            oddsByHand(99999, seeds, 2);
        }
        oddsByHand(99960, 40, 2);
        oddsByHand(99961, 40, 2);
    }

    private static void promise30NOrLess() {
        FirstColour x = close(7, HOUSE);
        due("seven of 7", x.odds(0, 40, 7, 0), 1);
        due("seven of 6", x.odds(0, 40, 6, 0), 0);
        due("none of 0", new FirstColour().odds(0, 40, 0, 0), 1);
        due("one of 0", apart(7, HOUSE).odds(0, 40, 0, 0), 0);
        due("one of 1", apart(7, HOUSE).odds(0, 40, 1, 0), 1);
    }

    private static void promise31AnImageOfAnySize() {
        FirstColour x = new FirstColour();
        due("no lots", x.image(), 0);
        for (int l = 0; l < 7; l++) {
            x.lot(HOUSE, 0, 0);
            due("lots", x.image(), l + 1);
        }
        due("the last image is kept", x.back(), 7);
    }

    private static void promise32StateIfThereIsNone() {
        FirstColour x = path(2);
        due("none", x.back(), STATE);
        x.image();
        due("one", x.back(), 2);
        due("it is kept", x.back(), 2);
        due("a new object has none", new FirstColour().back(), STATE);
    }

    private static void promise32AllThatItKeepsIsAsItWas() {
        FirstColour x = path(3);
        read(x, "worth 1;waits 1;moves 0;");
        x.build(2);
        x.build(0);
        x.image();
        x.force(1);
        x.pull(2);
        x.paint(0, 9);
        x.build(1);
        x.build(2);
        x.lane(0, 2);
        x.close(1, 2);
        x.lot(FOUNTAIN, 3, 7);
        x.build(3);
        due("lots", x.back(), 3);
        due("lots", x.count(0), 3);
        due("the law", x.count(5), 0);
        due("built", x.count(1), 5);
        int[] colours = {0, NONE, 0};
        int[] when = {2, NONE, 1};
        int[] beside = {2, 5, 2};
        for (int l = 0; l < 3; l++) {
            due("colour of " + l, x.told(l, 3), colours[l]);
            due("when, " + l, x.told(l, 4), when[l]);
            due("beside " + l, x.told(l, 2), beside[l]);
        }
        due("lot 3 is none", x.told(3, 0), NO_LOT);
    }

    private static void promise32LotsThatCameSinceAreNone() {
        FirstColour x = apart(6, HOUSE);
        x.image();
        x.lot(PROUD, 9, 63);
        x.paint(6, 11);
        due("full", x.lot(HOUSE, 0, 0), FULL);
        due("back", x.back(), 6);
        due("beside none", x.told(5, 2), 0);
        due("others that aren't there", x.lot(HOUSE, 0, 64), BAD);
        due("there is room", x.lot(SHY, 1, 0), 6);
        due("its kind", x.told(6, 0), SHY);
        due("its more", x.told(6, 1), 1);
        due("beside none", x.told(6, 2), 0);
        due("no house", x.told(6, 3), NONE);
        due("full again", x.lot(HOUSE, 0, 0), FULL);
        FirstColour y = new FirstColour();
        y.image();
        y.lot(HOUSE, 0, 0);
        due("to none", y.back(), 0);
        due("lot 0 is none", y.would(0), NO_LOT);
    }

    private static void promise32TheRestStays() {
        FirstColour x = apart(2, HOUSE);
        x.image();
        read(x, "worth 7;waits 1;moves 0;");
        tape(x, "worth 8;");
        row(x, 0, INTS, 0, 1);
        x.back();
        due("texts", x.count(4), 2);
        due("the tape", x.count(6), 8);
        due("it goes on", read(x, "waits 1;moves 0;"), 2);
        due("the sheet", x.paints(0, 0), 1);
        x.force(2);
        due("the text", x.asks(0, 0, 0, 0), 8);
    }

    // ---- the host

    private static void promise33SheetSortAndN() {
        FirstColour x = new FirstColour();
        for (int s : new int[] {-1, 4, LEAST, GREATEST}) {
            due("sheet " + s, x.sheet(s, INTS, 1), BAD);
            due("missing, sheet " + s, x.sheet(s, -1, 1), BAD);
        }
        for (int sort : new int[] {-2, 3, LEAST, GREATEST}) {
            due("sort " + sort, x.sheet(0, sort, 1), BAD);
        }
        for (int sort = BYTES; sort <= INTS; sort++) {
            for (int n : new int[] {0, 1, 39, 40}) {
                due("n " + n, x.sheet(3, sort, n), 1);
                due("behind it", x.cell(3, n, 0), OUTSIDE);
                due("its sort", x.lotsBy(3, sort, 0, 0), 0);
            }
            due("n 41", x.sheet(3, sort, 41), BAD);
            due("n of the greatest", x.sheet(3, sort, GREATEST), BAD);
            due("n -1", x.sheet(3, sort, -1), BELOW);
            due("n of the least", x.sheet(3, sort, LEAST), BELOW);
        }
    }

    private static void promise33OfSortMinus1NDoesNotMatter() {
        FirstColour x = new FirstColour();
        for (int n : new int[] {0, 40, 41, -1, LEAST, GREATEST}) {
            x.sheet(0, INTS, 1);
            due("n " + n, x.sheet(0, -1, n), 1);
            due("missing", x.cell(0, 0, 0), NOTHING);
            due("missing again", x.sheet(0, -1, n), 1);
        }
    }

    private static void promise33BadIsAheadOfASizeBelow0() {
        FirstColour x = new FirstColour();
        due("sheet", x.sheet(4, INTS, -1), BAD);
        due("sort 3", x.sheet(0, 3, -1), BAD);
        due("sort -2", x.sheet(0, -2, -1), BAD);
        due("neither", x.sheet(0, INTS, -1), BELOW);
    }

    private static void promise33AllAre0() {
        for (int sort = BYTES; sort <= INTS; sort++) {
            FirstColour x = apart(7, HOUSE);
            row(x, 0, sort, 9, 9, 9, 9, 9, 9, 9, 9);
            x.sheet(0, sort, 7);
            buildAll(x);
            due("all 0", x.judge(0), NONE);
            row(x, 0, sort, 9, 9, 9, 9, 9, 9, 9);
            x.sheet(0, -1, 0);
            x.sheet(0, sort, 7);
            due("all 0 again", x.judge(0), NONE);
        }
    }

    private static void promise34SheetAndPlace() {
        FirstColour x = new FirstColour();
        x.sheet(0, BYTES, 3);
        x.sheet(3, INTS, 0);
        for (int s : new int[] {-1, 4, LEAST, GREATEST}) {
            due("sheet " + s, x.cell(s, 0, 0), BAD);
            due("sheet " + s + " ahead of the place", x.cell(s, -1, 0), BAD);
        }
        due("missing", x.cell(1, 0, 0), NOTHING);
        due("missing ahead of the place", x.cell(1, -1, 0), NOTHING);
        due("place 0", x.cell(0, 0, 0), 1);
        due("place 2", x.cell(0, 2, 0), 1);
        for (int i : new int[] {-1, 3, 40, LEAST, GREATEST}) {
            due("place " + i, x.cell(0, i, 0), OUTSIDE);
        }
        due("of none", x.cell(3, 0, 0), OUTSIDE);
    }

    /** Number v, put into a sheet of a sort, is told as that colour, or as none that could be. */
    private static void putAs(int sort, int v, int colour) {
        FirstColour x = apart(1, HOUSE);
        if (colour >= 0) {
            x.paint(0, colour);
        }
        row(x, 0, sort, v);
        due("sort " + sort + ", " + v, x.judge(0), NONE);
    }

    private static void putOtherwise(int sort, int v, int colour) {
        FirstColour x = apart(1, HOUSE);
        if (colour >= 0) {
            x.paint(0, colour);
        }
        row(x, 0, sort, v);
        due("sort " + sort + ", " + v, x.judge(0), 0);
    }

    private static void promise34TheLowest8Or16Bits() {
        for (int sort = BYTES; sort <= INTS; sort++) {
            putAs(sort, 0, 0);
            putAs(sort, 11, 11);
            putAs(sort, -1, -1);
        }
        putAs(BYTES, 255, -1);
        putAs(BYTES, 256, 0);
        putAs(BYTES, 256 + 11, 11);
        putAs(BYTES, -256, 0);
        putAs(BYTES, -245, 11);
        putAs(BYTES, GREATEST, -1);
        putAs(BYTES, LEAST, 0);
        putOtherwise(BYTES, 128, 0);
        putAs(SHORTS, 65535, -1);
        putAs(SHORTS, 65536, 0);
        putAs(SHORTS, 65536 + 11, 11);
        putAs(SHORTS, -65536, 0);
        putAs(SHORTS, GREATEST, -1);
        putAs(SHORTS, LEAST, 0);
        putOtherwise(SHORTS, 255, -1);
        putOtherwise(SHORTS, 256, 0);
        putOtherwise(SHORTS, 256 + 11, 11);
        putOtherwise(SHORTS, 32768, 0);
        putOtherwise(INTS, 255, -1);
        putOtherwise(INTS, 65535, -1);
        putOtherwise(INTS, 65536, 0);
        putOtherwise(INTS, 65536 + 11, 11);
        putOtherwise(INTS, GREATEST, -1);
        putOtherwise(INTS, LEAST, 0);
    }

    private static void promise35TheOrderOfRefusals() {
        FirstColour x = new FirstColour();
        x.sheet(0, INTS, 3);
        x.sheet(1, BYTES, 3);
        for (int s : new int[] {-1, 4, LEAST, GREATEST}) {
            due("from " + s, x.copy(s, 0, 0, 0, 1), BAD);
            due("to " + s, x.copy(0, 0, s, 0, 1), BAD);
            due("from " + s + " ahead of missing", x.copy(s, 9, 2, 9, -1), BAD);
            due("to " + s + " ahead of missing", x.copy(2, 9, s, 9, -1), BAD);
        }
        due("from missing ahead of the sort", x.copy(2, 9, 0, 0, 1), NOTHING);
        due("to missing ahead of the sort", x.copy(0, 9, 2, 9, -1), NOTHING);
        due("both missing", x.copy(2, 0, 3, 0, 0), NOTHING);
        due("sorts ahead of places", x.copy(0, 9, 1, 9, 1), OTHER);
        due("sorts ahead of n", x.copy(0, 0, 1, 0, -1), OTHER);
        due("sorts, the other way", x.copy(1, 0, 0, 0, 1), OTHER);
        x.sheet(1, SHORTS, 3);
        due("ints and shorts", x.copy(0, 0, 1, 0, 1), OTHER);
        x.sheet(0, BYTES, 3);
        due("bytes and shorts", x.copy(0, 0, 1, 0, 1), OTHER);
        x.sheet(0, SHORTS, 3);
        due("alike", x.copy(0, 0, 1, 0, 1), 1);
    }

    private static void promise35PlacesOfBoth() {
        FirstColour x = new FirstColour();
        x.sheet(0, INTS, 5);
        x.sheet(1, INTS, 3);
        due("all of the lesser", x.copy(1, 0, 0, 0, 3), 3);
        due("to the end", x.copy(1, 0, 0, 2, 3), 3);
        due("one behind the end", x.copy(1, 0, 0, 3, 3), OUTSIDE);
        due("one too many there", x.copy(1, 0, 0, 0, 4), OUTSIDE);
        due("from the end", x.copy(0, 4, 1, 2, 1), 1);
        due("from behind the end", x.copy(0, 5, 1, 2, 1), OUTSIDE);
        due("none, from the size", x.copy(0, 5, 1, 3, 0), 0);
        due("none, from behind the size", x.copy(0, 6, 1, 3, 0), OUTSIDE);
        due("none, to behind the size", x.copy(0, 5, 1, 4, 0), OUTSIDE);
        due("i -1", x.copy(0, -1, 1, 0, 1), OUTSIDE);
        due("j -1", x.copy(0, 0, 1, -1, 1), OUTSIDE);
        due("i -1, none", x.copy(0, -1, 1, 0, 0), OUTSIDE);
        due("j -1, none", x.copy(0, 0, 1, -1, 0), OUTSIDE);
        due("n -1", x.copy(0, 1, 1, 1, -1), OUTSIDE);
        due("n of the least", x.copy(0, 1, 1, 1, LEAST), OUTSIDE);
        due("n of the greatest", x.copy(0, 1, 1, 1, GREATEST), OUTSIDE);
        due("i of the greatest", x.copy(0, GREATEST, 1, 0, 1), OUTSIDE);
        due("j of the greatest", x.copy(0, 0, 1, GREATEST, 1), OUTSIDE);
        due("i of the least", x.copy(0, LEAST, 1, 0, 1), OUTSIDE);
        due("both of the greatest", x.copy(0, GREATEST, 1, GREATEST, GREATEST), OUTSIDE);
        x.sheet(2, INTS, 40);
        due("forty to itself", x.copy(2, 0, 2, 0, 40), 40);
        due("forty-one", x.copy(2, 0, 2, 0, 41), OUTSIDE);
    }

    /** Behind the copy, sheet 0 or 1 tells these colours. */
    private static void copied(FirstColour x, int s, int... colours) {
        for (int l = 0; l < colours.length; l++) {
            x.paint(l, colours[l]);
        }
        due("sheet " + s + " as due", x.judge(s), NONE);
    }

    private static void promise35NumbersComeAsTheyWere() {
        FirstColour x = apart(5, HOUSE);
        row(x, 0, INTS, 1, 2, 3, 4, 5);
        due("on within itself", x.copy(0, 0, 0, 1, 4), 4);
        copied(x, 0, 1, 1, 2, 3, 4);
        row(x, 0, INTS, 1, 2, 3, 4, 5);
        due("back within itself", x.copy(0, 1, 0, 0, 4), 4);
        copied(x, 0, 2, 3, 4, 5, 5);
        row(x, 1, INTS, 9, 9, 9, 9, 9);
        due("to another's", x.copy(0, 1, 1, 2, 2), 2);
        copied(x, 1, 9, 9, 3, 4, 9);
        copied(x, 0, 2, 3, 4, 5, 5);
        due("none", x.copy(0, 0, 1, 0, 0), 0);
        copied(x, 1, 9, 9, 3, 4, 9);
        due("too many", x.copy(0, 0, 1, 1, 5), OUTSIDE);
        copied(x, 1, 9, 9, 3, 4, 9);
    }

    private static void promise36TheOrderOfRefusals() {
        FirstColour x = new FirstColour();
        x.sheet(0, INTS, 3);
        for (int s : new int[] {-1, 4, LEAST, GREATEST}) {
            due("sheet " + s, x.lotsBy(s, INTS, 0, 1), BAD);
        }
        for (int sort : new int[] {-2, -1, 3, LEAST, GREATEST}) {
            due("sort " + sort, x.lotsBy(0, sort, 0, 1), BAD);
            due("sort " + sort + " ahead of missing", x.lotsBy(1, sort, 0, 1), BAD);
        }
        for (int n : new int[] {-1, 8, LEAST, GREATEST}) {
            due("n " + n, x.lotsBy(0, INTS, 0, n), BAD);
            due("n " + n + " ahead of missing", x.lotsBy(1, INTS, 0, n), BAD);
            due("n " + n + " ahead of the sort", x.lotsBy(0, BYTES, 0, n), BAD);
        }
        due("missing", x.lotsBy(1, INTS, 0, 1), NOTHING);
        due("missing ahead of the place", x.lotsBy(1, INTS, -1, 1), NOTHING);
        due("sort ahead of the place", x.lotsBy(0, BYTES, -1, 1), OTHER);
        due("sort, none", x.lotsBy(0, SHORTS, 0, 0), OTHER);
        for (int at : new int[] {-1, 1, 3, LEAST, GREATEST}) {
            due("place " + at, x.lotsBy(0, INTS, at, 1), OUTSIDE);
        }
        due("none came", x.count(0), 0);
        due("place 0", x.lotsBy(0, INTS, 0, 1), 1);
    }

    private static void promise36NIs0To7() {
        for (int sort = BYTES; sort <= INTS; sort++) {
            for (int n = 0; n < 8; n++) {
                FirstColour x = new FirstColour();
                x.sheet(2, sort, 40);
                due(n + " from 0 on", x.lotsBy(2, sort, 0, n), n);
                due("lots", x.count(0), n);
                FirstColour y = new FirstColour();
                y.sheet(2, sort, 40);
                due(n + " to the end", y.lotsBy(2, sort, 40 - 3 * n, n), n);
                due("lots", y.count(0), n);
                FirstColour z = new FirstColour();
                z.sheet(2, sort, 40);
                due("one place on", z.lotsBy(2, sort, 41 - 3 * n, n), n == 0 ? 0 : OUTSIDE);
                due("lots ahead", z.count(0), Math.max(0, n - 1));
            }
        }
    }

    private static void promise36ThreeByThreeAsOfLot() {
        FirstColour x = new FirstColour();
        row(x, 0, SHORTS, 99, FOUNTAIN, 9, 0, SHY, 3, 1, PROUD, 0, 3, 7);
        due("three", x.lotsBy(0, SHORTS, 1, 3), 3);
        int[][] lots = {{FOUNTAIN, 9, 6}, {SHY, 3, 5}, {PROUD, 0, 3}};
        for (int l = 0; l < 3; l++) {
            for (int what = 0; what < 3; what++) {
                due("told(" + l + ", " + what + ")", x.told(l, what), lots[l][what]);
            }
        }
    }

    private static void promise36OthersAreLeftOut() {
        FirstColour x = new FirstColour();
        row(x, 0, INTS, 6, 0, 0, -1, 0, 0, HOUSE, 10, 0, HOUSE, -1, 0, HOUSE, 0, 1, SHY, 9, 0, PROUD, 0, 1);
        due("two of seven", x.lotsBy(0, INTS, 0, 7), 2);
        due("lots", x.count(0), 2);
        due("the first", x.told(0, 0), SHY);
        due("the second", x.told(1, 0), PROUD);
        due("beside it", x.told(1, 2), 1);
        FirstColour y = new FirstColour();
        row(y, 0, BYTES, 255, 0, 0, 256 + HIDDEN, 0, 0);
        due("bytes", y.lotsBy(0, BYTES, 0, 2), 1);
        due("by its lowest 8 bits", y.told(0, 0), HIDDEN);
    }

    private static void promise36WhatIsFullIsLeftOut() {
        FirstColour x = apart(5, HOUSE);
        x.sheet(0, INTS, 21);
        due("two have room", x.lotsBy(0, INTS, 0, 7), 2);
        due("none has room", x.lotsBy(0, INTS, 0, 7), 0);
        due("outside all the same", x.lotsBy(0, INTS, 1, 7), OUTSIDE);
        due("seven", x.count(0), 7);
    }

    private static void promise36WhatStoodAheadCame() {
        FirstColour x = new FirstColour();
        row(x, 0, INTS, 0, 0, 0, 1, 0, 0, 9, 0, 0, 2, 0);
        due("outside", x.lotsBy(0, INTS, 0, 4), OUTSIDE);
        due("two came", x.count(0), 2);
        due("the second", x.told(1, 0), SHY);
        due("outside again", x.lotsBy(0, INTS, 3, 3), OUTSIDE);
        due("one more came", x.count(0), 3);
        FirstColour y = new FirstColour();
        y.sheet(0, INTS, 5);
        due("two of its three", y.lotsBy(0, INTS, 3, 1), OUTSIDE);
        due("none came", y.count(0), 0);
        y.sheet(0, INTS, 6);
        due("all three", y.lotsBy(0, INTS, 3, 1), 1);
    }

    private static void promise37PlacesAre0To13() {
        FirstColour x = apart(7, HOUSE);
        for (int l = 0; l < 7; l++) {
            x.paint(l, 11 - l);
        }
        for (int i = 0; i < 7; i++) {
            due("place " + i, x.taken(i, HOUSE), i);
            due("place " + (i + 7), x.taken(i + 7, 6), 11 - i);
        }
        for (int i : new int[] {-1, 14, LEAST, GREATEST}) {
            due("place " + i, x.taken(i, HOUSE), OUTSIDE);
            due("place " + i, x.taken(i, 6), OUTSIDE);
        }
    }

    private static void promise37NothingLiesThere() {
        FirstColour x = apart(6, HOUSE);
        for (int l = 0; l < 5; l++) {
            x.build(l);
        }
        due("the last lot", x.taken(5, HOUSE), 5);
        due("no lot", x.taken(6, HOUSE), NOTHING);
        due("the last colour", x.taken(11, 6), 0);
        due("not built", x.taken(12, 6), NOTHING);
        due("of no lot", x.taken(13, 6), NOTHING);
        due("no lots", new FirstColour().taken(0, HOUSE), NOTHING);
        due("no lots, a colour", new FirstColour().taken(7, 6), NOTHING);
    }

    private static void promise37OneThatIsOne() {
        int[] above = {NONE, HOUSE, HOUSE, SHY, PICKY, HOUSE};
        for (int kind = HOUSE; kind <= FOUNTAIN; kind++) {
            FirstColour x = apart(2, kind);
            for (int asked = HOUSE; asked <= FOUNTAIN; asked++) {
                int k = kind;
                while (k != NONE && k != asked) {
                    k = above[k];
                }
                due("kind " + kind + " for " + asked, x.taken(1, asked), k == asked ? 1 : OTHER);
            }
        }
    }

    private static void promise37KindIs0To6() {
        FirstColour x = apart(1, FOUNTAIN);
        x.paint(0, 3);
        for (int kind : new int[] {-1, 7, LEAST, GREATEST}) {
            due("kind " + kind, x.taken(0, kind), BAD);
            due("kind " + kind + ", a colour", x.taken(7, kind), BAD);
        }
        due("kind 0", x.taken(0, 0), 0);
        due("kind 5", x.taken(0, 5), 0);
        due("a lot for a colour", x.taken(0, 6), OTHER);
        due("a colour for a colour", x.taken(7, 6), 3);
        for (int kind = HOUSE; kind <= FOUNTAIN; kind++) {
            due("a colour for a lot", x.taken(7, kind), OTHER);
        }
    }

    private static void promise37TheOrderOfRefusals() {
        FirstColour x = apart(1, HOUSE);
        due("kind ahead of the place", x.taken(14, 7), BAD);
        due("kind ahead of nothing", x.taken(1, -1), BAD);
        due("nothing ahead of another kind", x.taken(1, 6), NOTHING);
        due("nothing ahead of another kind", x.taken(7, 0), NOTHING);
    }
}
