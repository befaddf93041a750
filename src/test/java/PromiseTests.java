/** At least one test for each promise of the document: ordinary inputs, edges, wrong inputs. */
public final class PromiseTests {
    private static final int NO_LOT = -5, UNFIT = -7, NOTHING = -11, OUTSIDE = -12, OTHER = -13, BELOW = -14;
    private static final int HOUSE = 0, SHY = 1, PICKY = 2, PROUD = 3, HIDDEN = 4, FOUNTAIN = 5;
    private static final int BAD = FirstColour.BAD, STATE = FirstColour.STATE, FULL = FirstColour.FULL;
    private static int wrong = 0;

    private static void due(int promise, String call, long got, long want) {
        if (got != want) {
            wrong++;
            System.out.println("promise " + promise + ": " + call + " answered " + got + ", due is " + want);
        }
    }

    public static void main(String[] args) {
        newObject();
        count();
        feed();
        text();
        faults();
        expressions();
        force();
        asks();
        lot();
        told();
        build();
        would();
        pull();
        paint();
        lane();
        laneByLaw();
        close();
        idle();
        order();
        fewest();
        paints();
        raise();
        when();
        rule();
        ahead();
        built();
        blame();
        judge();
        plans();
        film();
        laws();
        drawn();
        odds();
        imageAndBack();
        sheet();
        cell();
        copy();
        lotsBy();
        taken();
        System.out.println(wrong == 0 ? "all promises hold" : wrong + " answers are not as due");
        if (wrong != 0) {
            System.exit(1);
        }
    }

    // ---- towns and helpers

    /** Lots of one kind, none beside another. */
    private static FirstColour apart(int lots, int kind) {
        FirstColour x = new FirstColour();
        for (int l = 0; l < lots; l++) {
            x.lot(kind, 0, 0);
        }
        return x;
    }

    /** Houses, each beside the next. */
    private static FirstColour path(int lots) {
        FirstColour x = new FirstColour();
        for (int l = 0; l < lots; l++) {
            x.lot(HOUSE, 0, l == 0 ? 0 : 1 << l - 1);
        }
        return x;
    }

    private static void tape(FirstColour x, String text) {
        for (int i = 0; i < text.length(); i++) {
            x.feed(1, text.charAt(i), 0, 0, 0, 0);
        }
    }

    private static int read(FirstColour x, String text) {
        tape(x, text);
        return x.text();
    }

    private static void enforce(FirstColour x, String text) {
        x.force(read(x, text));
    }

    private static void row(FirstColour x, int s, int sort, int... values) {
        x.sheet(s, sort, values.length);
        for (int i = 0; i < values.length; i++) {
            x.cell(s, i, values[i]);
        }
    }

    // ---- the law

    private static void newObject() {
        FirstColour x = new FirstColour();
        due(1, "count(0)", x.count(0), 0);
        due(1, "told(0, 0)", x.told(0, 0), NO_LOT);
        due(1, "count(6)", x.count(6), 0);
        due(1, "film(0)", x.film(0), 0);
    }

    private static void count() {
        FirstColour x = path(4);
        x.build(0);
        x.build(1);
        x.build(3);
        x.feed(3, 32, 32, 32, 0, 0);
        due(2, "count(0)", x.count(0), 4);
        due(2, "count(1)", x.count(1), 11);
        due(2, "count(2)", x.count(2), 2);
        due(2, "count(3)", x.count(3), 3);
        due(2, "count(4)", x.count(4), 1);
        due(2, "count(5)", x.count(5), 0);
        due(2, "count(6)", x.count(6), 3);
        due(2, "count(-1)", x.count(-1), BAD);
        due(2, "count(7)", x.count(7), BAD);
        x.text();
        enforce(x, "worth 1;waits 1;moves 1;");
        due(2, "count(4), two texts", x.count(4), 2);
        due(2, "count(5), forced", x.count(5), 1);
    }

    private static void feed() {
        FirstColour x = new FirstColour();
        due(3, "feed(0)", x.feed(0, 1, 1, 1, 1, 1), BAD);
        due(3, "feed(6)", x.feed(6, 1, 1, 1, 1, 1), BAD);
        due(3, "feed, a", x.feed(5, -1, 1, 1, 1, 1), BAD);
        due(3, "feed, b", x.feed(1, 1, 256, 1, 1, 1), BAD);
        due(3, "feed, c", x.feed(1, 1, 1, -1, 1, 1), BAD);
        due(3, "feed, d", x.feed(1, 1, 1, 1, 256, 1), BAD);
        due(3, "feed, e", x.feed(1, 1, 1, 1, 1, 256), BAD);
        due(3, "feed(2)", x.feed(2, 0, 255, 0, 0, 0), 2);
        for (int i = 0; i < 31; i++) {
            x.feed(5, 32, 32, 32, 32, 32);
        }
        due(3, "feed(4) at 157", x.feed(4, 1, 1, 1, 1, 1), FULL);
        due(3, "none came", x.count(6), 157);
        due(3, "feed(6) at 157", x.feed(6, 1, 1, 1, 1, 1), BAD);
        due(3, "feed(3) at 157", x.feed(3, 1, 1, 1, 1, 1), 160);
        due(3, "feed(1) at 160", x.feed(1, 1, 1, 1, 1, 1), FULL);
        FirstColour y = new FirstColour();
        y.feed(5, 'w', 'o', 'r', 't', 'h');
        y.feed(5, '7', ';', 'w', 'a', 'i');
        y.feed(4, 't', 's', '8', ';', 'x');
        tape(y, "moves 0;");
        due(3, "bytes in turn", y.text(), 1);
        y.lot(HOUSE, 0, 0);
        y.force(1);
        due(3, "worth 7", y.asks(0, 0, 0, 0), 7);
        due(3, "waits 8", y.asks(1, 0, 0, 0), 8);
    }

    private static void text() {
        FirstColour x = new FirstColour();
        due(4, "text(), empty", x.text(), -100);
        due(4, "text(), fault", read(x, "worth 1 ; w"), -110);
        due(4, "tape empty behind a fault", x.count(6), 0);
        due(4, "text() 1", read(x, "worth 1;waits 1;moves 1;"), 1);
        due(4, "tape empty behind a text", x.count(6), 0);
        for (int t = 2; t < 6; t++) {
            due(4, "text() " + t, read(x, "worth 1;\nwaits 1; moves 1 ; "), t);
        }
        due(4, "text(), full", read(x, "worth 1;waits 1;moves 1;"), FULL);
        due(4, "the tape stays", x.count(6), 24);
        x.feed(1, '!', 0, 0, 0, 0);
        due(4, "full ahead of a fault", x.text(), FULL);
        due(4, "count(4)", x.count(4), 6);
    }

    private static void fault(String text, int place) {
        FirstColour x = new FirstColour();
        due(4, "text of " + text, read(x, text), place < 0 ? 1 : -100 - place);
    }

    private static void faults() {
        fault("worth1waits1;moves1;", 6);
        fault("worth1;waits1;moves1;", -1);
        fault("worth1;waits1;moves1; \n", -1);
        fault("worth1;waits1;moves1;;", 21);
        fault("worth1;waits1;moves1; worth", 22);
        fault("worth1;waits1;moves1", 20);
        fault("worth1;waits1;moves1  ", 22);
        fault("  ", 2);
        fault("waits1;worth1;moves1;", 0);
        fault("worth1;moves1;waits1;", 7);
        fault("Worth1;", 0);
        fault("worth\t1;", 5);
        fault("worthy 1;", 0);
        fault("worth lo;", 6);
        fault("worth lotss;", 6);
        fault("worth lotz;", 6);
        fault("worth alot;", 6);
        fault("worth lot`;", 9);
        fault("worth lot{;", 9);
        fault("worth 1/2;", 7);
        fault("worth 1:2;", 7);
        fault("worth 9999;waits0;moves0;", -1);
        fault("worth 10000;waits0;moves0;", 6);
        fault("worth 1 00000;waits0;moves0;", 8);
        fault("worth 1 < 2 < 3;", 12);
        fault("worth 1 = 2 < 3;", 12);
        fault("worth (1 = 2) < 3;waits0;moves0;", -1);
        fault("worth 1 + not 2;", 10);
        fault("worth 1 < not 2;", 10);
        fault("worth -not 2;", 7);
        fault("worth not 1 < 2 and not not 3 or 4;waits0;moves0;", -1);
        fault("worth 1 or;", 10);
        fault("worth 1 and or 2;", 12);
        fault("worth ();", 7);
        fault("worth (1;", 8);
        fault("worth 1);", 7);
        fault("worth 1 2;", 8);
        fault("worth lot lots;", 10);
        fault("worth waits;", 6);
        fault("worth * 1;", 6);
        fault("worth +1;", 6);
        fault("worth 1 * - 2 - - 3;waits0;moves0;", -1);
        fault("worth (((((1)))));waits0;moves0;", -1);
        fault("worth ((((((1))))));waits0;moves0;", 11);
        fault("worth -----1;waits0;moves0;", -1);
        fault("worth ------1;waits0;moves0;", 11);
        fault("worth 1------1;waits0;moves0;", -1);
        fault("worth not not not not not 1;waits0;moves0;", -1);
        fault("worth not not not not not not 1;waits0;moves0;", 26);
        fault("worth not not not not not -1;waits0;moves0;", 26);
        fault("worth not (-(-1));waits0;moves0;", -1);
        fault("worth not (-(-(1)));waits0;moves0;", 14);
        fault("worth not ((((1)))) and not ((((1))));waits0;moves0;", -1);
        fault("worth -((((1)))) + (((((2)))));waits0;moves0;", -1);
        fault("worth not 1 < (((((2)))));", 18);
        fault("worth 1 ? 2;", 8);
        fault("worth 1 >", 8);
    }

    /** What worth says of text E with a lot of MORE 4, beside 2 of 3 others, of colour 3 and order 5. */
    private static void worth(String e, int value) {
        FirstColour x = apart(2, HOUSE);
        x.lot(SHY, 4, 3);
        x.lot(HOUSE, 0, 0);
        enforce(x, "worth " + e + ";waits -(" + e + ");moves " + e + ";");
        due(6, "worth " + e, x.asks(0, 2, 3, 5), Math.max(0, Math.min(99, value)));
        due(6, "waits -(" + e + ")", x.asks(1, 2, 3, 5), Math.max(0, Math.min(99, -value)));
        due(6, "moves " + e, x.asks(2, 2, 3, 5), value == 0 ? 0 : 1);
    }

    private static void expressions() {
        worth("colour", 3);
        worth("lot", 2);
        worth("beside", 2);
        worth("order", 5);
        worth("more", 4);
        worth("lots", 4);
        worth("99", 99);
        worth("100", 100);
        worth("2+3*4", 14);
        worth("(2+3)*4", 20);
        worth("20-3-4", 13);
        worth("20-(3-4)", 21);
        worth("3--4", 7);
        worth("-3*-4", 12);
        worth("2-5", -3);
        worth("1<2", 1);
        worth("2<2", 0);
        worth("2=2", 1);
        worth("1+1<1+2", 1);
        worth("not 0", 1);
        worth("not 7", 0);
        worth("not 1=2", 1);
        worth("7 and 9", 1);
        worth("7 and 0", 0);
        worth("0 or 8", 1);
        worth("0 or 0", 0);
        worth("1 or 0 and 0", 1);
        worth("(1 or 0) and 0", 0);
        worth("not 0 and 0", 0);
        worth("9999*9999*9999*9999", 9999 * 9999 * 9999 * 9999);
        worth("9999*9999*9999*9999<0", 0);
        worth("9999*9999*9999<0", 9999 * 9999 * 9999 < 0 ? 1 : 0);
        worth("1+2*(3-4)*5+6*7-8*9", 1 + 2 * (3 - 4) * 5 + 6 * 7 - 8 * 9);
        worth("-(1+2)*3+60", 51);
    }

    private static void force() {
        FirstColour x = apart(1, HOUSE);
        read(x, "worth 7;waits 7;moves 0;");
        due(5, "force(2)", x.force(2), BAD);
        due(5, "force(-1)", x.force(-1), BAD);
        due(5, "still text 0", x.asks(0, 0, 1, 0), 16);
        due(5, "force(1)", x.force(1), 0);
        due(5, "worth", x.asks(0, 0, 1, 0), 7);
        due(5, "force(1) again", x.force(1), 1);
        due(5, "force(0)", x.force(0), 1);
        due(5, "worth", x.asks(0, 0, 1, 0), 16);
    }

    private static void asks() {
        FirstColour x = apart(1, HOUSE);
        due(6, "worth of 11", x.asks(0, 0, 11, 7), 0);
        due(6, "worth of 4", x.asks(0, 0, 4, 7), 4);
        due(6, "waits", x.asks(1, 0, 11, 7), 7);
        due(6, "moves", x.asks(2, 0, 0, 0), 1);
        due(6, "no lot", x.asks(9, 1, 0, 0), NO_LOT);
        due(6, "no lot", x.asks(0, -1, 0, 0), NO_LOT);
        due(6, "part 3", x.asks(3, 0, 0, 0), UNFIT);
        due(6, "part -1", x.asks(-1, 0, 0, 0), UNFIT);
        due(6, "colour 12", x.asks(0, 0, 12, 0), UNFIT);
        due(6, "colour -1", x.asks(0, 0, -1, 0), UNFIT);
        due(6, "order 8", x.asks(0, 0, 0, 8), UNFIT);
        due(6, "order -1", x.asks(0, 0, 0, -1), UNFIT);
        enforce(x, "worth 0;waits 0;moves order;");
        due(6, "moves of order 0", x.asks(2, 0, 0, 0), 0);
        due(6, "moves of order 4", x.asks(2, 0, 0, 4), 1);
    }

    // ---- lots

    private static void lot() {
        FirstColour x = new FirstColour();
        due(7, "others that aren't there", x.lot(HOUSE, 0, 1), BAD);
        due(7, "kind -1", x.lot(-1, 0, 0), BAD);
        due(7, "kind 6", x.lot(6, 0, 0), BAD);
        due(7, "more -1", x.lot(HOUSE, -1, 0), BAD);
        due(7, "more 10", x.lot(HOUSE, 10, 0), BAD);
        due(7, "others -1", x.lot(HOUSE, 0, -1), BAD);
        due(7, "lot 0", x.lot(FOUNTAIN, 9, 0), 0);
        due(7, "lot 1", x.lot(HOUSE, 0, 1), 1);
        due(7, "lot 2", x.lot(HOUSE, 0, 3), 2);
        due(7, "both ways", x.told(0, 2), 6);
        for (int l = 3; l < 7; l++) {
            due(7, "lot " + l, x.lot(HOUSE, 0, 0), l);
        }
        due(7, "an eighth", x.lot(HOUSE, 0, 127), FULL);
        due(7, "an eighth that is bad", x.lot(HOUSE, 0, 128), BAD);
    }

    private static void told() {
        FirstColour x = new FirstColour();
        x.lot(HIDDEN, 7, 0);
        x.lot(PROUD, 3, 1);
        due(8, "kind", x.told(0, 0), 4);
        due(8, "more", x.told(0, 1), 7);
        due(8, "beside", x.told(1, 2), 1);
        due(8, "colour of none", x.told(0, 3), -1);
        due(8, "when, none", x.told(0, 4), -1);
        x.build(1);
        x.pull(1);
        x.paint(0, 3);
        x.build(1);
        x.paint(0, 4);
        due(8, "colour", x.told(0, 3), 4);
        due(8, "built second of all", x.told(0, 4), 2);
        due(8, "built third of all", x.told(1, 4), 3);
        x.image();
        x.pull(0);
        x.build(0);
        due(8, "built fourth of all", x.told(0, 4), 4);
        x.back();
        due(8, "undone", x.told(0, 4), 2);
        x.pull(0);
        x.build(0);
        due(8, "what was undone doesn't count", x.told(0, 4), 4);
        due(8, "what 5", x.told(0, 5), UNFIT);
        due(8, "what -1", x.told(0, -1), UNFIT);
        due(8, "no lot", x.told(2, 9), NO_LOT);
        due(8, "no lot", x.told(-1, 0), NO_LOT);
    }

    // ---- building

    private static void build() {
        FirstColour x = path(3);
        due(9, "build(0)", x.build(0), 0);
        due(9, "build(2)", x.build(2), 0);
        due(9, "build(1)", x.build(1), 1);
        due(9, "the youngest", x.told(1, 4), 3);
        due(9, "build(1) again", x.build(1), STATE);
        due(9, "build(3)", x.build(3), NO_LOT);
        due(9, "build(-1)", x.build(-1), NO_LOT);
    }

    /** What a lot takes that is beside houses of these colours. */
    private static void takes(int kind, int more, int want, int... colours) {
        FirstColour x = apart(colours.length, HOUSE);
        x.lot(kind, more, (1 << colours.length) - 1);
        for (int l = 0; l < colours.length; l++) {
            x.paint(l, colours[l]);
        }
        due(10, "kind " + kind + ", more " + more, x.would(colours.length), want);
        due(9, "kind " + kind + ", more " + more, x.build(colours.length), want);
        due(10, "built, kind " + kind + ", more " + more, x.would(colours.length), want);
    }

    private static void would() {
        takes(HOUSE, 9, 0);
        takes(HOUSE, 0, 1, 0, 2, 3, 5);
        takes(HOUSE, 0, 0, 1, 2);
        takes(HOUSE, 0, 6, 0, 1, 2, 3, 4, 5);
        takes(SHY, 0, 1);
        takes(SHY, 0, 3, 1, 2);
        takes(SHY, 0, 7, 1, 2, 3, 4, 5, 6);
        takes(PICKY, 5, 1);
        takes(PICKY, 6, 0);
        takes(PICKY, 6, 4, 0, 2, 3, 5);
        takes(PICKY, 9, 1, 0, 2, 3, 5);
        takes(PROUD, 0, 1);
        takes(PROUD, 4, 6, 5);
        takes(PROUD, 3, 6, 0, 2, 3, 5);
        takes(PROUD, 3, 1, 0, 2, 5);
        takes(PROUD, 5, 3, 0, 2);
        takes(PROUD, 1, 1, 3, 3);
        takes(PROUD, 1, 1, 2);
        takes(PROUD, 0, 11, 11);
        takes(PROUD, 2, 11, 11, 3, 10);
        takes(HIDDEN, 1, 4, 0, 2, 3, 5);
        takes(HIDDEN, 0, 1);
        takes(FOUNTAIN, 0, 0, 0, 1, 2);
        FirstColour x = new FirstColour();
        x.lot(HIDDEN, 3, 0);
        x.lot(HOUSE, 0, 1);
        x.lot(HOUSE, 0, 2);
        x.paint(0, 0);
        due(10, "a hidden one isn't taken", x.would(1), 0);
        due(10, "not built isn't taken", x.would(2), 0);
        x.build(1);
        due(10, "one built is", x.would(2), 1);
        due(10, "nothing changed", x.told(2, 3), -1);
        due(10, "would(3)", x.would(3), NO_LOT);
        due(10, "would(-1)", x.would(-1), NO_LOT);
    }

    private static void pull() {
        FirstColour x = path(2);
        x.build(0);
        x.build(1);
        due(11, "pull(1)", x.pull(1), 1);
        due(11, "none there", x.told(1, 3), -1);
        due(11, "pull(1) again", x.pull(1), STATE);
        due(11, "pull(2)", x.pull(2), NO_LOT);
        due(11, "pull(-1)", x.pull(-1), NO_LOT);
        due(11, "pull(0)", x.pull(0), 0);
        due(11, "0 is not taken any more", x.build(1), 0);
    }

    private static void paint() {
        FirstColour x = path(2);
        due(12, "paint(0, 11)", x.paint(0, 11), -1);
        due(12, "built now", x.told(0, 4), 1);
        due(12, "build", x.build(0), STATE);
        x.build(1);
        due(12, "paint(0, 0)", x.paint(0, 0), 11);
        due(12, "colour", x.told(0, 3), 0);
        due(12, "as old as before", x.told(0, 4), 1);
        due(12, "colour 12", x.paint(0, 12), UNFIT);
        due(12, "colour -1", x.paint(0, -1), UNFIT);
        due(12, "no lot", x.paint(2, 12), NO_LOT);
        due(12, "no lot", x.paint(-1, 0), NO_LOT);
        due(12, "still", x.told(0, 3), 0);
    }

    // ---- lanes

    private static void lane() {
        FirstColour x = apart(3, HOUSE);
        due(13, "none built", x.lane(0, 1), 0);
        due(13, "beside now", x.told(1, 2), 1);
        due(13, "beside already", x.lane(1, 0), STATE);
        due(13, "alike lots", x.lane(1, 1), NO_LOT);
        due(13, "no lot", x.lane(0, 3), NO_LOT);
        due(13, "no lot", x.lane(-1, 0), NO_LOT);
        x.build(2);
        x.build(0);
        due(13, "the younger moves", x.lane(2, 0), 1);
        due(13, "the younger", x.told(0, 3), 1);
        due(13, "the elder", x.told(2, 3), 0);
        due(13, "as young as before", x.told(0, 4), 2);
        x.close(0, 2);
        due(13, "unlike", x.lane(0, 2), 0);

        FirstColour y = apart(2, HOUSE);
        y.lot(HIDDEN, 3, 2);
        y.paint(0, 0);
        y.paint(1, 0);
        y.paint(2, 1);
        due(13, "on and on", y.lane(0, 1), 2);
        due(13, "first mover", y.told(1, 3), 1);
        due(13, "second mover", y.told(2, 3), 0);

        FirstColour z = apart(4, FOUNTAIN);
        for (int l = 0; l < 3; l++) {
            z.build(l);
        }
        due(13, "20 times at most", z.lane(0, 2), 20);
        due(13, "one not built", z.lane(0, 3), 0);

        // 1 moves to colour 1; lots 2 and 3 beside it are of colour 1, hidden: by numbers 2 comes first, to stop there
        FirstColour w = apart(2, HOUSE);
        w.lot(HIDDEN, 0, 2);
        w.lot(HIDDEN, 0, 2);
        w.paint(0, 0);
        w.paint(1, 0);
        w.paint(2, 1);
        w.paint(3, 1);
        due(13, "the first by numbers", w.lane(0, 1), 2);
        due(13, "it moved", w.told(2, 3), 2);
        due(13, "the other didn't", w.told(3, 3), 1);
    }

    private static void laneByLaw() {
        FirstColour x = apart(2, HOUSE);
        x.build(1);
        x.build(0);
        enforce(x, "worth 0;waits 0;moves lot = 1;");
        due(13, "the younger one is 0", x.lane(0, 1), 0);
        x.close(0, 1);
        enforce(x, "worth 0;waits 0;moves lot = 0 and colour = 0 and beside = 1 and order = 0 and lots = 2;");
        due(13, "moves tells it, the lane being there", x.lane(0, 1), 1);
        // The elder ones are passed by: the law lets lot 3 alone move on.
        FirstColour y = apart(2, HOUSE);
        y.lot(HIDDEN, 0, 2);
        y.lot(HIDDEN, 0, 2);
        y.paint(0, 0);
        y.paint(1, 0);
        y.paint(2, 1);
        y.paint(3, 1);
        enforce(y, "worth 0;waits 0;moves lot = 1 or lot = 3;");
        due(13, "the first that moves", y.lane(0, 1), 2);
        due(13, "2 stays", y.told(2, 3), 1);
        due(13, "3 moved", y.told(3, 3), 2);
    }

    private static void close() {
        FirstColour x = path(2);
        x.build(0);
        x.build(1);
        due(14, "close(1, 0)", x.close(1, 0), 1);
        due(14, "not beside", x.told(0, 2), 0);
        due(14, "not beside", x.told(1, 2), 0);
        due(14, "colours stay", x.told(1, 3), 1);
        due(14, "close(0, 1) again", x.close(0, 1), 0);
        due(14, "alike", x.close(0, 0), NO_LOT);
        due(14, "no lot", x.close(0, 2), NO_LOT);
        due(14, "no lot", x.close(-1, 0), NO_LOT);
    }

    private static void idle() {
        FirstColour x = apart(3, HOUSE);
        x.build(0);
        x.build(2);
        due(15, "idle(0)", x.idle(0), 2);
        due(15, "idle(1)", x.idle(1), 2);
        due(15, "idle(2)", x.idle(2), 1);
        due(15, "nothing changed", x.count(3), 0);
        due(15, "nothing changed", x.told(2, 3), 0);
        due(15, "idle(3)", x.idle(3), BAD);
        due(15, "idle(-1)", x.idle(-1), BAD);
        FirstColour y = apart(4, FOUNTAIN);
        for (int l = 1; l < 4; l++) {
            y.build(l);
        }
        due(15, "idle(0), fountains", y.idle(0), 3);
        due(15, "idle(1), of like ones the first", y.idle(1), 12);
        due(15, "idle(2), fountains", y.idle(2), 20);
        FirstColour z = path(2);
        due(15, "no lane could be", z.idle(0), 0);
        due(15, "nobody moves", z.idle(1), -1);
        due(15, "nobody moves", z.idle(2), 0);
    }

    // ---- orders

    private static void order() {
        FirstColour x = path(4);
        due(16, "fewest", x.order(0, 0), 2);
        due(16, "fewest, the first", x.order(0, 1), 1234);
        due(16, "most", x.order(1, 0), 3);
        due(16, "most, the first", x.order(1, 1), 1243);
        due(16, "nothing built", x.count(1), 0);
        x.paint(3, 7);
        due(16, "what is built counts", x.order(0, 0), 3);
        due(16, "of those not built", x.order(0, 1), 123);
        x.build(0);
        due(16, "sort 2", x.order(2, 0), BAD);
        due(16, "sort -1", x.order(-1, 0), BAD);
        due(16, "what 2", x.order(0, 2), BAD);
        due(16, "what -1", x.order(0, -1), BAD);
        x.build(1);
        x.build(2);
        due(16, "all built", x.order(1, 0), 3);
        due(16, "all built", x.order(1, 1), 0);
    }

    private static void fewest() {
        due(17, "none", new FirstColour().fewest(), 0);
        due(17, "one", apart(1, SHY).fewest(), 1);
        due(17, "apart", apart(7, HOUSE).fewest(), 1);
        due(17, "path", path(7).fewest(), 2);
        FirstColour ring = path(5);
        ring.lane(0, 4);
        ring.paint(2, 9);
        due(17, "ring of 5", ring.fewest(), 3);
        FirstColour all = new FirstColour();
        for (int l = 0; l < 7; l++) {
            all.lot(FOUNTAIN, 0, (1 << l) - 1);
        }
        due(17, "all beside all", all.fewest(), 7);
        all.close(2, 5);
        due(17, "but two", all.fewest(), 6);
        // A ring of 5 and one beside all of it.
        FirstColour wheel = path(5);
        wheel.lane(0, 4);
        wheel.lot(HOUSE, 0, 31);
        due(17, "wheel", wheel.fewest(), 4);
    }

    private static void paints() {
        FirstColour x = path(4);
        row(x, 0, 0, 0, 3, 1, 2);
        due(18, "how many", x.paints(0, 0), 3);
        due(18, "lot 0", x.paints(0, 1), 0);
        due(18, "lot 1", x.paints(0, 2), 1);
        due(18, "lot 2", x.paints(0, 3), 2);
        due(18, "lot 3", x.paints(0, 4), 0);
        due(18, "what 5", x.paints(0, 5), UNFIT);
        due(18, "what -1", x.paints(0, -1), UNFIT);
        due(18, "nothing built", x.count(1), 0);
        due(18, "sheet 4", x.paints(4, 9), BAD);
        due(18, "sheet -1", x.paints(-1, 0), BAD);
        due(18, "missing", x.paints(1, 9), NOTHING);
        row(x, 1, 2, 0, 3, 1);
        due(18, "too few", x.paints(1, 9), BAD);
        row(x, 1, 2, 0, 3, 1, 1);
        due(18, "one twice", x.paints(1, 0), BAD);
        row(x, 1, 2, 0, 3, 1, 4);
        due(18, "one that isn't there", x.paints(1, 0), BAD);
        row(x, 1, 2, 0, 3, 1, -1);
        due(18, "a number below 0", x.paints(1, 0), BAD);
        row(x, 1, 2, 0, 3, 1, 34);
        due(18, "a great number", x.paints(1, 0), BAD);
        row(x, 1, 2, 0, 3, 1, 2, 2);
        due(18, "too many", x.paints(1, 0), BAD);
        x.paint(3, 5);
        due(18, "one that is built", x.paints(0, 0), BAD);
        row(x, 1, 1, 2, 1, 0);
        due(18, "behind what is built", x.paints(1, 0), 3);
        due(18, "one that was built", x.paints(1, 4), 5);
        x.build(0);
        x.build(1);
        x.build(2);
        x.sheet(2, 0, 0);
        due(18, "all built", x.paints(2, 0), 3);
    }

    private static void raise() {
        FirstColour x = path(4);
        row(x, 0, 2, 0, 3, 1, 2);
        row(x, 1, 2, 0, 3, 1);
        due(19, "sheet 4", x.raise(4), BAD);
        due(19, "sheet -1", x.raise(-1), BAD);
        due(19, "missing", x.raise(2), NOTHING);
        due(19, "too few", x.raise(1), BAD);
        due(19, "none came", x.count(1), 0);
        due(19, "how many", x.raise(0), 3);
        due(19, "all built", x.count(1), 15);
        due(19, "lot 2", x.told(2, 3), 2);
        due(19, "built second", x.told(3, 4), 2);
        due(19, "built last", x.told(2, 4), 4);
        due(19, "raise again", x.raise(0), BAD);
        x.sheet(0, 0, 0);
        due(19, "raise nothing", x.raise(0), 3);
    }

    private static void when() {
        FirstColour x = path(3);
        row(x, 0, 2, 0, 2);
        due(20, "n", x.when(1, 0, 0), 0);
        due(20, "that", x.when(1, 0, 1), 20);
        enforce(x, "worth colour * 9;waits order * 2;moves 1;");
        due(20, "n, colours worth more", x.when(1, 0, 0), 1);
        due(20, "that, colours worth more", x.when(1, 0, 1), 7);
        enforce(x, "worth order * 10;waits order;moves 1;");
        due(20, "n, waiting is worth it", x.when(1, 0, 0), 2);
        due(20, "that, waiting is worth it", x.when(1, 0, 1), 18);
        enforce(x, "worth 5;waits 9;moves 1;");
        due(20, "of like ones the first", x.when(1, 0, 0), 0);
        due(20, "below 0", x.when(1, 0, 1), -4);
        due(20, "what 2", x.when(1, 0, 2), UNFIT);
        due(20, "what -1", x.when(1, 0, -1), UNFIT);
        due(20, "lot told", x.when(0, 0, 0), BAD);
        due(20, "no lot", x.when(3, 9, 0), NO_LOT);
        due(20, "no lot", x.when(-1, 0, 0), NO_LOT);
        due(20, "sheet 4", x.when(1, 4, 9), BAD);
        due(20, "missing", x.when(1, 1, 9), NOTHING);
        row(x, 1, 2, 0, 1, 2);
        due(20, "this lot told, too", x.when(1, 1, 9), BAD);
        due(20, "nothing built", x.count(1), 0);
        x.build(0);
        due(20, "built", x.when(0, 9, 9), STATE);
        x.build(2);
        x.sheet(2, 0, 0);
        due(20, "alone", x.when(1, 2, 1), -4);
    }

    private static void rule() {
        FirstColour x = path(6);
        due(21, "by numbers", x.rule(0, 1), 123456);
        due(21, "most first", x.rule(1, 1), 234516);
        due(21, "fewest first", x.rule(2, 1), 162345);
        due(21, "by numbers, colours", x.rule(0, 0), 2);
        due(21, "fewest first, colours", x.rule(2, 0), 3);
        x.paint(2, 8);
        due(21, "beside what is built, too", x.rule(1, 1), 24516);
        due(21, "colours, what is built, too", x.rule(1, 0), 3);
        due(21, "rule 3", x.rule(3, 0), BAD);
        due(21, "rule -1", x.rule(-1, 0), BAD);
        due(21, "what 2", x.rule(0, 2), BAD);
        due(21, "what -1", x.rule(0, -1), BAD);
        due(21, "nothing changed", x.count(1), 4);
        FirstColour y = apart(1, HOUSE);
        y.build(0);
        due(21, "none is not built", y.rule(1, 1), 0);
        due(21, "none is not built", y.rule(1, 0), 1);
    }

    private static void ahead() {
        FirstColour x = path(2);
        due(22, "ahead(1, 0)", x.ahead(1, 0), 4);
        due(22, "ahead(0, 1)", x.ahead(0, 1), -4);
        enforce(x, "worth order * 10 + colour;waits 0;moves 0;");
        due(22, "by order, earlier", x.ahead(1, 0), -11);
        due(22, "by order, later", x.ahead(0, 1), 11);
        due(22, "alike", x.ahead(0, 0), -100000);
        due(22, "no lot", x.ahead(0, 2), -100000);
        due(22, "no lot", x.ahead(-1, 0), -100000);
        x.lot(HOUSE, 0, 0);
        x.paint(0, 0);
        due(22, "one is built", x.ahead(0, 1), -100000);
        due(22, "one is built", x.ahead(1, 0), -100000);
        // Only what is built in the order counts: lot 1 stands at 0 by numbers.
        due(22, "what was built doesn't count", x.ahead(1, 2), 10);
    }

    // ---- how it was built

    private static void built() {
        FirstColour x = path(3);
        due(23, "nothing", x.built(0), 1);
        due(23, "nothing", x.built(1), 0);
        x.build(2);
        x.build(1);
        due(23, "one fits", x.built(0), 1);
        due(23, "that", x.built(1), 32);
        x.build(0);
        due(23, "lot 1 not first", x.built(0), 4);
        due(23, "the first", x.built(1), 123);
        x.paint(0, 5);
        due(23, "none fits", x.built(0), 0);
        due(23, "none fits", x.built(1), -1);
        due(23, "what 2", x.built(2), BAD);
        due(23, "what -1", x.built(-1), BAD);
        FirstColour y = apart(7, HOUSE);
        for (int l = 6; l >= 0; l--) {
            y.build(l);
        }
        due(23, "all fit", y.built(0), 5040);
        due(23, "the first of all", y.built(1), 1234567);
    }

    private static void blame() {
        FirstColour x = path(2);
        due(24, "nothing", x.blame(), 0);
        x.paint(0, 0);
        due(24, "fits", x.blame(), 0);
        x.paint(1, 5);
        due(24, "lot 1", x.blame(), 2);
        x.paint(0, 0);
        x.paint(1, 0);
        due(24, "either", x.blame(), 3);
        x.paint(0, 4);
        x.paint(1, 5);
        due(24, "no single one", x.blame(), 0);
    }

    // ---- maps

    private static void judge() {
        FirstColour x = path(3);
        x.build(0);
        x.build(1);
        row(x, 0, 0, 0, 1, -1);
        due(25, "as told, bytes", x.judge(0), -1);
        row(x, 0, 1, 0, 1, -1);
        due(25, "as told, shorts", x.judge(0), -1);
        row(x, 0, 2, 0, 1, 0);
        due(25, "last otherwise", x.judge(0), 2);
        row(x, 0, 2, 0, 2, 0);
        due(25, "first otherwise", x.judge(0), 1);
        row(x, 0, 2, -1, 1, -1);
        due(25, "built, told not", x.judge(0), 0);
        due(25, "sheet 4", x.judge(4), BAD);
        due(25, "sheet -1", x.judge(-1), BAD);
        due(25, "missing", x.judge(1), NOTHING);
        row(x, 0, 2, 0, 1);
        due(25, "too short", x.judge(0), BAD);
        row(x, 0, 2, 0, 1, -1, -1);
        due(25, "too long", x.judge(0), BAD);
    }

    private static void plans() {
        FirstColour x = path(3);
        row(x, 0, 2, 0, 1, 0);
        due(26, "plans", x.plans(0, 0), 4);
        due(26, "first", x.plans(0, 1), 123);
        row(x, 0, 2, 0, 1, 2);
        due(26, "none", x.plans(0, 0), 0);
        due(26, "none", x.plans(0, 1), -1);
        row(x, 0, 2, 0, 1, -1);
        due(26, "told not built", x.plans(0, 0), 0);
        row(x, 0, 2, 0, 40, -9);
        due(26, "no colours", x.plans(0, 1), -1);
        x.paint(2, 0);
        row(x, 0, 2, 0, 1, 0);
        due(26, "behind what is built", x.plans(0, 0), 2);
        due(26, "behind what is built", x.plans(0, 1), 12);
        row(x, 0, 2, 0, 1, 3);
        due(26, "built otherwise", x.plans(0, 0), 0);
        due(26, "built otherwise", x.plans(0, 1), -1);
        due(26, "nothing changed", x.count(1), 4);
        x.build(1);
        x.build(0);
        due(26, "all built, otherwise", x.plans(0, 0), 0);
        due(26, "all built, otherwise", x.plans(0, 1), -1);
        row(x, 0, 0, 0, 1, 0);
        due(26, "all built", x.plans(0, 0), 1);
        due(26, "all built", x.plans(0, 1), 0);
        due(26, "what 2", x.plans(0, 2), UNFIT);
        due(26, "what -1", x.plans(0, -1), UNFIT);
        due(26, "sheet 4", x.plans(4, 9), BAD);
        due(26, "missing", x.plans(1, 9), NOTHING);
        row(x, 0, 2, 0, 1);
        due(26, "too short", x.plans(0, 9), BAD);
    }

    private static void film() {
        FirstColour x = path(2);
        x.build(1);
        x.sheet(0, 0, 30);
        due(27, "film", x.film(0), 2);
        due(27, "it is so", x.judge(0), -1);
        due(27, "as long as lots", x.cell(0, 2, 0), OUTSIDE);
        row(x, 1, 2, 0);
        due(27, "ints", x.copy(1, 0, 0, 0, 1), 1);
        due(27, "lot 0 told otherwise", x.judge(0), 0);
        due(27, "sheet 4", x.film(4), BAD);
        due(27, "sheet -1", x.film(-1), BAD);
        FirstColour y = new FirstColour();
        due(27, "of none", y.film(3), 0);
        due(27, "not missing", y.judge(3), -1);
    }

    private static void laws() {
        FirstColour x = apart(3, HOUSE);
        x.build(0);
        x.build(1);
        read(x, "worth 0;waits 0;moves 0;");
        read(x, "worth 0;waits 0;moves lot;");
        due(28, "once", x.laws(0, 1, 1), 5);
        due(28, "never", x.laws(1, 0, 0), 2);
        due(28, "20 times", x.laws(0, 1, 20), 0);
        due(28, "not both built", x.laws(0, 2, 0), 7);
        due(28, "many 21", x.laws(0, 1, 21), UNFIT);
        due(28, "many -1", x.laws(0, 1, -1), UNFIT);
        due(28, "no lot", x.laws(0, 3, 99), NO_LOT);
        due(28, "alike", x.laws(2, 2, 0), NO_LOT);
        due(28, "nothing changed", x.count(3), 0);
        due(28, "the law stays", x.count(5), 0);
        x.lane(0, 1);
        due(28, "beside", x.laws(0, 1, 99), STATE);
    }

    // ---- orders by lot

    private static void drawn() {
        FirstColour x = path(7);
        int[] found = new int[8];
        for (int seed = 0; seed < 30; seed++) {
            int[] order = new int[7];
            int used = 0;
            long lot = seed + 1;
            for (int m = 7; m > 0; m--) {
                lot = lot * 48271 % 2147483647;
                int place = (int) (lot % m);
                int l = 0;
                while ((used >> l & 1) != 0 || place-- > 0) {
                    l++;
                }
                used |= 1 << l;
                order[7 - m] = l;
            }
            row(x, 0, 2, order);
            int colours = x.paints(0, 0);
            found[colours]++;
            due(29, "drawn(" + seed + ")", x.drawn(seed), colours);
        }
        due(29, "unlike orders were drawn", found[2] > 0 && found[3] > 0 ? 1 : 0, 1);
        due(29, "drawn(-1)", x.drawn(-1), BAD);
        due(29, "drawn(100000)", x.drawn(100000), BAD);
        due(29, "drawn(99999)", x.drawn(99999) >= 2 ? 1 : 0, 1);
        due(29, "nothing changed", x.count(1), 0);
        due(29, "of none", new FirstColour().drawn(0), 0);
    }

    private static void odds() {
        FirstColour x = path(6);
        due(30, "above", x.odds(5, 30, 2, 0), 8);
        due(30, "below", x.odds(5, 30, 2, 1), 15);
        due(30, "all", x.odds(5, 30, 3, 0), 1);
        due(30, "all", x.odds(5, 30, 7, 1), 1);
        due(30, "none", x.odds(5, 30, 0, 0), 0);
        due(30, "none", x.odds(5, 30, 0, 1), 1);
        due(30, "one seed", x.odds(0, 1, 7, 1), 1);
        due(30, "past the last seed", x.odds(99999, 40, 7, 0), 1);
        due(30, "seed -1", x.odds(-1, 1, 0, 0), FirstColour.NO);
        due(30, "seed 100000", x.odds(100000, 1, 0, 0), FirstColour.NO);
        due(30, "no seeds", x.odds(0, 0, 0, 0), FirstColour.NO);
        due(30, "41 seeds", x.odds(0, 41, 0, 0), FirstColour.NO);
        due(30, "n -1", x.odds(0, 1, -1, 0), FirstColour.NO);
        due(30, "n 8", x.odds(0, 1, 8, 0), FirstColour.NO);
        due(30, "part -1", x.odds(0, 1, 0, -1), FirstColour.NO);
        due(30, "part 2", x.odds(0, 1, 0, 2), FirstColour.NO);
    }

    private static void imageAndBack() {
        FirstColour x = path(2);
        due(32, "none kept", x.back(), STATE);
        x.build(1);
        x.paint(0, 3);
        due(31, "image()", x.image(), 2);
        read(x, "worth 0;waits 0;moves 0;");
        x.force(1);
        x.lot(SHY, 1, 3);
        x.build(2);
        x.close(0, 1);
        x.pull(1);
        x.build(1);
        row(x, 0, 2, 5);
        x.feed(2, 1, 1, 1, 1, 1);
        due(32, "back()", x.back(), 2);
        due(32, "lots", x.count(0), 2);
        due(32, "built", x.count(1), 3);
        due(32, "beside", x.told(0, 2), 2);
        due(32, "the law", x.count(5), 0);
        due(32, "colour", x.told(0, 3), 3);
        due(32, "when", x.told(1, 4), 1);
        due(32, "texts stay", x.count(4), 2);
        due(32, "the tape stays", x.count(6), 2);
        due(32, "sheets stay", x.cell(0, 0, 5), 1);
        due(32, "a new lot", x.lot(FOUNTAIN, 0, 0), 2);
        due(32, "is beside none", x.told(2, 2), 0);
        due(32, "is not built", x.told(2, 3), -1);
        due(32, "back() again", x.back(), 2);
        x.lot(HOUSE, 0, 0);
        due(31, "another image", x.image(), 3);
        x.lot(HOUSE, 0, 0);
        due(32, "back to the other", x.back(), 3);
    }

    // ---- the host

    private static void sheet() {
        FirstColour x = new FirstColour();
        due(33, "sheet 4", x.sheet(4, 0, 0), BAD);
        due(33, "sheet -1", x.sheet(-1, 0, 0), BAD);
        due(33, "sort 3", x.sheet(0, 3, 0), BAD);
        due(33, "sort -2", x.sheet(0, -2, 0), BAD);
        due(33, "41", x.sheet(0, 0, 41), BAD);
        due(33, "-1", x.sheet(0, 0, -1), BELOW);
        due(33, "none came", x.cell(0, 0, 0), NOTHING);
        due(33, "40", x.sheet(3, 1, 40), 1);
        due(33, "the last place", x.cell(3, 39, 1), 1);
        due(33, "missing", x.sheet(3, -1, 99), 1);
        due(33, "nothing there", x.cell(3, 0, 0), NOTHING);
        FirstColour y = apart(2, HOUSE);
        row(y, 0, 2, 7, 7);
        y.sheet(0, 2, 2);
        y.paint(0, 0);
        y.paint(1, 0);
        due(33, "all 0", y.judge(0), -1);
    }

    private static void cell() {
        FirstColour x = apart(2, HOUSE);
        x.paint(0, 5);
        x.sheet(0, 0, 2);
        due(34, "sheet 4", x.cell(4, 0, 0), BAD);
        due(34, "sheet -1", x.cell(-1, 0, 0), BAD);
        due(34, "missing", x.cell(1, 99, 0), NOTHING);
        due(34, "place 2", x.cell(0, 2, 0), OUTSIDE);
        due(34, "place -1", x.cell(0, -1, 0), OUTSIDE);
        due(34, "cell", x.cell(0, 0, 256 + 5), 1);
        x.cell(0, 1, 255);
        due(34, "the lowest 8 bits", x.judge(0), -1);
        row(x, 0, 1, 65536 + 5, 65535);
        due(34, "the lowest 16 bits", x.judge(0), -1);
        row(x, 0, 1, 256 + 5, 65535);
        due(34, "not 8", x.judge(0), 0);
        row(x, 0, 2, 65536 + 5, -1);
        due(34, "all bits", x.judge(0), 0);
    }

    private static void copy() {
        FirstColour x = apart(4, HOUSE);
        for (int l = 0; l < 4; l++) {
            x.paint(l, l < 2 ? 0 : l - 1);
        }
        row(x, 0, 2, 0, 1, 2, 9);
        due(35, "as they were", x.copy(0, 0, 0, 1, 3), 3);
        due(35, "0 0 1 2", x.judge(0), -1);
        row(x, 0, 2, 9, 0, 0, 1, 2);
        row(x, 1, 2, 7, 7, 7, 7);
        due(35, "to another", x.copy(0, 1, 1, 0, 4), 4);
        due(35, "0 0 1 2", x.judge(1), -1);
        due(35, "nothing, at the end", x.copy(0, 5, 1, 4, 0), 0);
        due(35, "behind the end", x.copy(0, 6, 1, 0, 0), OUTSIDE);
        due(35, "too many", x.copy(0, 2, 1, 0, 4), OUTSIDE);
        due(35, "no room", x.copy(0, 0, 1, 1, 4), OUTSIDE);
        due(35, "n -1", x.copy(0, 0, 1, 0, -1), OUTSIDE);
        due(35, "i -1", x.copy(0, -1, 1, 0, 1), OUTSIDE);
        due(35, "j -1", x.copy(0, 0, 1, -1, 1), OUTSIDE);
        due(35, "great numbers", x.copy(0, 2, 1, 2, Integer.MAX_VALUE), OUTSIDE);
        due(35, "great places", x.copy(0, Integer.MAX_VALUE, 1, Integer.MAX_VALUE, 2), OUTSIDE);
        due(35, "nothing changed", x.judge(1), -1);
        row(x, 2, 1, 1);
        due(35, "unlike sorts", x.copy(0, 99, 2, 0, -1), OTHER);
        due(35, "missing", x.copy(0, 0, 3, 0, 1), NOTHING);
        due(35, "missing", x.copy(3, 0, 2, 0, 1), NOTHING);
        due(35, "sheet 4", x.copy(3, 0, 4, 0, 1), BAD);
        due(35, "sheet -1", x.copy(-1, 0, 3, 0, 1), BAD);
    }

    private static void lotsBy() {
        FirstColour x = new FirstColour();
        row(x, 0, 1, 9, 5, 3, 0, 6, 0, 0, 1, 2, 1, 0);
        due(36, "sheet 4", x.lotsBy(4, 1, 0, 1), BAD);
        due(36, "sheet -1", x.lotsBy(-1, 1, 0, 1), BAD);
        due(36, "sort 3", x.lotsBy(0, 3, 0, 1), BAD);
        due(36, "sort -1", x.lotsBy(0, -1, 0, 1), BAD);
        due(36, "n -1", x.lotsBy(0, 1, 0, -1), BAD);
        due(36, "n 8", x.lotsBy(0, 1, 0, 8), BAD);
        due(36, "missing", x.lotsBy(1, 1, 0, 1), NOTHING);
        due(36, "unlike", x.lotsBy(0, 0, -1, 1), OTHER);
        due(36, "place -1", x.lotsBy(0, 1, -1, 1), OUTSIDE);
        due(36, "a great place", x.lotsBy(0, 1, Integer.MAX_VALUE, 1), OUTSIDE);
        due(36, "none", x.lotsBy(0, 1, 0, 0), 0);
        due(36, "still none", x.count(0), 0);
        due(36, "one is left out", x.lotsBy(0, 1, 1, 3), 2);
        due(36, "kind", x.told(0, 0), 5);
        due(36, "more", x.told(0, 1), 3);
        due(36, "beside", x.told(1, 2), 1);
        due(36, "what stood ahead came", x.lotsBy(0, 1, 1, 4), OUTSIDE);
        due(36, "two more", x.count(0), 4);
        x.lot(HOUSE, 0, 0);
        x.lot(HOUSE, 0, 0);
        due(36, "one has room", x.lotsBy(0, 1, 1, 3), 1);
        due(36, "seven", x.count(0), 7);
    }

    private static void taken() {
        boolean[][] is = {
            {true, false, false, false, false, false},
            {true, true, false, false, false, false},
            {true, false, true, false, false, false},
            {true, true, false, true, false, false},
            {true, false, true, false, true, false},
            {true, false, false, false, false, true},
        };
        FirstColour x = new FirstColour();
        for (int kind = 0; kind < 6; kind++) {
            x.lot(kind, 0, 0);
            for (int asked = 0; asked < 6; asked++) {
                due(37, "taken(" + kind + ", " + asked + ")", x.taken(kind, asked), is[kind][asked] ? kind : OTHER);
            }
            due(37, "a lot taken for a colour", x.taken(kind, 6), OTHER);
        }
        x.paint(4, 9);
        due(37, "a colour", x.taken(11, 6), 9);
        due(37, "a colour taken for a lot", x.taken(11, 0), OTHER);
        due(37, "not built", x.taken(10, 6), NOTHING);
        due(37, "no lot", x.taken(6, 0), NOTHING);
        due(37, "no lot's colour", x.taken(13, 6), NOTHING);
        due(37, "place 14", x.taken(14, 0), OUTSIDE);
        due(37, "place -1", x.taken(-1, 6), OUTSIDE);
        due(37, "kind 7", x.taken(14, 7), BAD);
        due(37, "kind -1", x.taken(0, -1), BAD);
    }
}
