/** The edges of the tape, of texts and their faults, of rows and images: Terms 1, promises 1 to 6 and 36 to 38. */
public final class TextEdgeTest {
    private static final int NONE = PastHeaps.NONE;
    private static final int[] FAR = {Integer.MIN_VALUE, Integer.MIN_VALUE + 1, -100, Integer.MAX_VALUE};
    private static final String[] WORDS = {"new", "put", "meld", "less", "lower", "cut"};
    /** The greatest that each number of a word may be. */
    private static final int[][] MOST = {{}, {40, 99}, {40, 40}, {40}, {40, 39, 99}, {40, 99}};

    public static void main(String[] args) {
        newObject();
        feedFillsTheTape();
        feedRefused();
        feedTellsHighestFirst();
        end();
        wholeTape();
        signs();
        numberSigns();
        asLongAsTheyGo();
        howManyNumbers();
        otherWords();
        greatestNumbers();
        firstByPlace();
        fortyActs();
        noAct();
        latestText();
        rowsAtMost();
        noSuchRow();
        inThePlaceOfOne();
        asTold();
        noSuchAct();
        versionsByActs();
        noSuchImage();
        imageOfNew();
        imageOfAll();
        lastCall();
        Due.finish("TextEdgeTest");
    }

    private static void fault(String text, int what, int place) {
        PastHeaps heaps = new PastHeaps();
        String of = "'" + text + "' ";
        Due.is("text " + of, Due.tell(heaps, NONE, text), what == 0 ? 0 : NONE);
        Due.is("fault of " + of, heaps.fault(0), what);
        Due.is("place of " + of, heaps.fault(1), place);
        Due.is("count behind " + of, heaps.count(), what == 0 ? 1 : 0);
        Due.is("tape behind " + of, heaps.end(1), NONE);
    }

    private static void good(String text) {
        fault(text, 0, NONE);
    }

    // Promise 1: "No ROWS of ACTS; no images."
    private static void newObject() {
        PastHeaps heaps = new PastHeaps();
        Due.is("no rows", heaps.count(), 0);
        Due.is("no row 0", heaps.act(0, NONE, 0), -2);
        Due.is("no row 0 to be replaced", heaps.text(0), -2);
        for (int k = 0; k < 3; k++) {
            Due.is("no image " + k, heaps.again(k), false);
        }
        Due.is("no tape", heaps.end(1), NONE);
        Due.is("no tape", heaps.end(0), 0);
        Due.is("no fault", heaps.fault(0), 0);
        Due.is("no place", heaps.fault(1), NONE);
        Due.is("an empty tape has no act", heaps.text(NONE), NONE);
        Due.is("fault 4", heaps.fault(0), 4);
        Due.is("at the end's place", heaps.fault(1), 0);
    }

    // Promise 2: "twenty bytes come behind it ..: how many it has", "if there would be more than 600"
    private static void feedFillsTheTape() {
        PastHeaps heaps = new PastHeaps();
        for (int i = 1; i <= 30; i++) {
            Due.is("feed", heaps.feed(0, 0, 0, 0, 0), i * 20);
        }
        Due.is("600 and 20", heaps.feed(0, 0, 0, 0, 0), NONE);
        Due.is("600 stay", heaps.end(600), 600);
        for (int n : new int[] {599, 590, 581}) {
            Due.is("end", heaps.end(n), n);
            Due.is("more than 600", heaps.feed(0, 0, 0, 0, 0), NONE);
        }
        Due.is("end", heaps.end(580), 580);
        Due.is("just 600", heaps.feed(0, 0, 0, 0, 0), 600);
        Due.is("end", heaps.end(579), 579);
        Due.is("599", heaps.feed(0, 0, 0, 0, 0), 599);
    }

    // Promise 2: "NONE, and nothing comes"
    private static void feedRefused() {
        PastHeaps heaps = new PastHeaps();
        Due.write(heaps, Due.times(585, " ") + "new;", 0);
        Due.is("589 bytes", heaps.end(589), 589);
        Due.is("refused", heaps.feed(-1, -1, -1, -1, -1), NONE);
        Due.is("none of it comes", heaps.end(590), NONE);
        Due.is("all of it stays", heaps.end(589), 589);
        Due.is("it is a text", heaps.text(NONE), 0);
        Due.is("of one act", heaps.act(0, NONE, 0), 1);
        // the same where just as many blanks stand behind it as would come
        heaps.feed(0x6e65773b, 0x20202020, 0x20202020, 0x20202020, 0x20202020);
        for (int i = 1; i < 30; i++) {
            heaps.feed(0x20202020, 0x20202020, 0x20202020, 0x20202020, 0x20202020);
        }
        Due.is("refused", heaps.feed(-1, -1, -1, -1, -1), NONE);
        Due.is("it is a text", heaps.text(NONE), 1);
    }

    // Promise 2: "of each number the highest first"
    private static void feedTellsHighestFirst() {
        PastHeaps heaps = new PastHeaps();
        String text = "put 0 12;put 1 34; ;";
        Due.is("feed", heaps.feed(0x70757420, 0x30203132, 0x3b707574, 0x20312033, 0x343b203b), 20);
        Due.is("a fault at the last byte", heaps.text(NONE), NONE);
        Due.is("at the last byte", heaps.fault(1), text.length() - 1);
        heaps.feed(0x70757420, 0x30203132, 0x3b707574, 0x20312033, 0x343b2020);
        Due.is("text", heaps.text(NONE), 0);
        Due.is("acts", heaps.act(0, NONE, 0), 2);
        Due.is("key", heaps.act(0, 0, 2), 12);
        Due.is("version", heaps.act(0, 1, 1), 1);
        Due.is("key", heaps.act(0, 1, 2), 34);
        // a number below 0: its highest byte is above 127
        for (int at = 0; at < 5; at++) {
            int[] five = {0x20202020, 0x20202020, 0x20202020, 0x20202020, 0x20202020};
            five[at] = 0x800a0a0a;
            heaps.feed(five[0], five[1], five[2], five[3], five[4]);
            Due.is("no text", heaps.text(NONE), NONE);
            Due.is("fault", heaps.fault(0), 1);
            Due.is("place", heaps.fault(1), 4 * at);
        }
    }

    // Promise 3: "NONE if it has not so many, or n is below 0"
    private static void end() {
        PastHeaps heaps = new PastHeaps();
        Due.write(heaps, "new;put 0 1;less", 0);
        for (int n : new int[] {17, 18, 20, 600, 601, Integer.MAX_VALUE, -1, -2, -16, Integer.MIN_VALUE}) {
            Due.is("end " + n, heaps.end(n), NONE);
        }
        Due.is("all of it", heaps.end(16), 16);
        Due.is("its first bytes alone", heaps.end(12), 12);
        Due.is("not so many now", heaps.end(13), NONE);
        Due.is("twenty behind these", heaps.feed(0x6375743b, 0, 0, 0, 0), 32);
        Due.is("its first bytes alone", heaps.end(15), 15);
        Due.is("no text", heaps.text(NONE), NONE);
        Due.is("what came behind", heaps.fault(1), 15);
        Due.write(heaps, "new;put 0 1;less", 0);
        Due.is("its first bytes alone", heaps.end(12), 12);
        Due.is("text", heaps.text(NONE), 0);
        Due.is("of these", heaps.act(0, NONE, 0), 2);
        Due.write(heaps, "new;", 0);
        Due.is("none of it", heaps.end(0), 0);
        Due.is("none of it", heaps.end(1), NONE);
        Due.is("no text", heaps.text(NONE), NONE);
        Due.is("no act", heaps.fault(0), 4);
    }

    // Terms 1: "THE TAPE has at most 600 bytes": all of them are read
    private static void wholeTape() {
        good(Due.times(596, " ") + "new;");
        good("new;" + Due.times(596, "\n"));
        fault(Due.times(599, " ") + ";", 1, 599);
        fault("new;" + Due.times(595, " ") + "#", 1, 599);
        fault(Due.times(597, " ") + "new", 1, 600);
        fault(Due.times(600, "a"), 1, 0);
        fault(Due.times(600, "0"), 1, 0);
        fault(Due.times(600, ";"), 1, 0);
        String put = "put" + Due.times(590, " ") + "0 3";
        fault(put, 1, 596);
        good(put + ";");
        fault("new;put 0 " + Due.times(590, "7"), 1, 10);
    }

    // Terms 1: "blanks (10, 32) between", "letters a .. z", "; one byte": of all 256 bytes none else goes
    private static void signs() {
        for (int sign = 0; sign < 256; sign++) {
            char at = (char) sign;
            boolean blank = sign == 10 || sign == 32;
            boolean letter = sign >= 97 && sign <= 122;
            fault(at + "new;", blank ? 0 : 1, blank ? NONE : 0);
            fault("new;" + at, blank ? 0 : 1, blank ? NONE : 4);
            fault("new" + at + ";", blank ? 0 : 1, blank ? NONE : letter ? 0 : sign == ';' ? 4 : 3);
        }
        good(" \n new \n ; \n ");
    }

    // Terms 1: "NUMBERS, 1 or 2 digits", "a longer row of digits is no token"
    private static void numberSigns() {
        for (int sign = 0; sign < 256; sign++) {
            char at = (char) sign;
            boolean blank = sign == 10 || sign == 32;
            boolean digit = sign >= 48 && sign <= 57;
            fault("put 0" + at + "5;", blank ? 0 : 1, blank ? NONE : digit ? 4 : 5);
            fault("put 0 5" + at + ";", blank || digit ? 0 : 1, blank || digit ? NONE : sign == ';' ? 8 : 7);
        }
        good("put 00 00;");
        good("put 0 99;");
        fault("put 000 5;", 1, 4);
        fault("put 0 005;", 1, 6);
        fault("put 0 100;", 1, 6);
        fault("less 0000;", 1, 5);
        fault("less 999999999999;", 1, 5);
        fault("less 4294967296;", 1, 5);
        fault("new 100;", 1, 4);
        fault("100;", 1, 0);
        // the longer row stands before a number that can't be, and behind it
        fault("put 100 1;less 41;", 1, 4);
        fault("less 41;put 100 1;", 1, 12);
    }

    // Terms 1: "TOKENS, as long as they go"
    private static void asLongAsTheyGo() {
        good("put0 5;");
        good("put0\n5;less1;");
        fault("put 05;", 1, 6);
        fault("newnew;", 1, 0);
        fault("ne w;", 1, 0);
        fault("n\new;", 1, 0);
        fault("new new;", 1, 4);
        fault("put 0 1less 1;", 1, 7);
        fault("new;lesslower 1;", 1, 4);
        fault("put 0 1 2;", 1, 8);
        fault("new;;", 1, 4);
        fault("new; ;", 1, 5);
        // a word cut off by the end is a token with which no text goes on
        fault("new;ne", 1, 4);
        fault("new;les 1", 1, 4);
    }

    // Terms 1: a text of acts; promise 5: "the first byte or token with which no text goes on", "the end's" place
    private static void howManyNumbers() {
        for (int kind = 0; kind < WORDS.length; kind++) {
            int due = MOST[kind].length;
            for (int many = 0; many < 5; many++) {
                String text = WORDS[kind] + Due.times(many, " 0");
                int length = text.length();
                int beyond = WORDS[kind].length() + 2 * due + 1;
                fault(text + ";", many == due ? 0 : 1, many == due ? NONE : many < due ? length : beyond);
                fault(text, 1, many <= due ? length : beyond);
                fault("new;" + text + " \n", 1, many <= due ? length + 6 : beyond + 4);
                fault(text + " x;", 1, many <= due ? length + 1 : beyond);
                fault(text + "#", 1, many <= due ? length : beyond);
            }
        }
    }

    private static void otherWords() {
        for (String word : WORDS) {
            fault(word.substring(1) + " 0 0 0;", 1, 0);
            fault(word.substring(0, word.length() - 1) + " 0 0 0;", 1, 0);
            fault(word + "s 0 0 0;", 1, 0);
            fault("s" + word + " 0 0 0;", 1, 0);
            fault(word.toUpperCase(java.util.Locale.ROOT) + " 0 0 0;", 1, 0);
            fault(word.substring(0, 1) + word.substring(1).toUpperCase(java.util.Locale.ROOT) + " 0;", 1, 0);
            fault("new; " + word.substring(0, word.length() - 1) + "y;", 1, 5);
            fault("less " + word + ";", 1, 5);
        }
        fault("0;", 1, 0);
        fault("new;40;", 1, 4);
    }

    // Terms 1: "VERSION, KEY, 0 .. 99", "VERSION, thing, 0 .. 39, KEY", "VERSIONS are 0 .. 40"; fault 2
    private static void greatestNumbers() {
        for (int kind = 0; kind < WORDS.length; kind++) {
            for (int i = 0; i < MOST[kind].length; i++) {
                for (int number = 0; number <= 99; number++) {
                    StringBuilder text = new StringBuilder(WORDS[kind]);
                    int place = 0;
                    for (int j = 0; j < MOST[kind].length; j++) {
                        text.append(' ');
                        place = i == j ? text.length() : place;
                        text.append(i == j ? number : 0);
                    }
                    boolean may = number <= MOST[kind][i];
                    fault(text + ";", may ? 0 : 2, may ? NONE : place);
                }
            }
        }
        good("put 07 00;less 09;meld 00 40;");
        fault("put 041 1;", 1, 4);
    }

    // Terms 1: "1 the first ..", "If there is none, the first by place"
    private static void firstByPlace() {
        fault("meld 41 42;", 2, 5);
        fault("meld 40 42;less 43;", 2, 8);
        fault("lower 40 40 99;", 2, 9);
        fault("lower 99 40 99;", 2, 6);
        fault("less 41;x", 1, 8);
        fault("less 41", 1, 7);
        fault("x;less 41;", 1, 0);
        fault("less 41;new;cut 41 0;", 2, 5);
        // a line with a number that can't be tells its act all the same: it is not a text without acts
        fault("less 99;", 2, 5);
        // of faults 1 the first
        fault("new;#;x", 1, 4);
        fault("put 0 #100;", 1, 6);
    }

    // Terms 1: "ACTS are a row of at most 40", "3 a 41st act, at its first token"
    private static void fortyActs() {
        String forty = Due.times(40, "new;");
        good(Due.times(39, "new;"));
        good(forty);
        good(forty + " \n ");
        fault(forty + "new;", 3, 160);
        fault(forty + " \n new;", 3, 163);
        fault(forty + "new;new;", 3, 160);
        fault(forty + Due.times(100, "new;"), 3, 160);
        fault(forty + "put 41 1;", 3, 160);
        fault(forty + "less 41;less 41;", 3, 160);
        // what comes first by place is the 40th act's number
        fault(Due.times(39, "new;") + "less 41;new;", 2, 161);
        fault("less 41;" + Due.times(39, "new;") + "new;", 2, 5);
        // fault 1 comes before all, also behind the 41st act or in it
        fault(forty + "new", 1, 163);
        fault(forty + "put 1;", 1, 165);
        fault(forty + "new;#", 1, 164);
        fault(forty + ";", 1, 160);
        fault(forty + "x", 1, 160);
        fault("less 41;" + forty + "new;;", 1, 172);
    }

    // Terms 1: "4: there is none of these, but no act (at the end's place)"
    private static void noAct() {
        fault("", 4, 0);
        fault(" ", 4, 1);
        fault("\n", 4, 1);
        fault(Due.times(600, " "), 4, 600);
        fault(Due.times(300, "\n "), 4, 600);
        fault(";", 1, 0);
        fault("  ;", 1, 2);
        fault("\t", 1, 0);
    }

    // Promise 5: "Of the latest text(), what 0: the FAULT, 0 without, 1: its place, NONE without. NONE for another what"
    private static void latestText() {
        PastHeaps heaps = new PastHeaps();
        latest(heaps, 0, NONE);
        Due.is("fault", Due.tell(heaps, NONE, "new;less 41;"), NONE);
        latest(heaps, 2, 9);
        Due.write(heaps, "new;", 0);
        heaps.end(2);
        latest(heaps, 2, 9);
        Due.is("fault", Due.tell(heaps, NONE, "new;#"), NONE);
        latest(heaps, 1, 4);
        Due.is("no fault", Due.tell(heaps, NONE, "new;"), 0);
        latest(heaps, 0, NONE);
        Due.is("fault", Due.tell(heaps, 0, ""), NONE);
        latest(heaps, 4, 0);
        Due.is("refused", Due.tell(heaps, 1, "#"), -2);
        latest(heaps, 0, NONE);
    }

    private static void latest(PastHeaps heaps, int fault, int place) {
        Due.is("fault", heaps.fault(0), fault);
        Due.is("place", heaps.fault(1), place);
        Due.is("another what", heaps.fault(2), NONE);
        Due.is("another what", heaps.fault(-1), NONE);
        for (int what : FAR) {
            Due.is("another what", heaps.fault(what), NONE);
        }
    }

    // Terms 1: "ROWS of ACTS, at most 4"; promise 4: "-2: .. as many as may be (the tape is empty then, too; ..)"
    private static void rowsAtMost() {
        PastHeaps heaps = new PastHeaps();
        for (int row = 0; row < 4; row++) {
            Due.is("count", heaps.count(), row);
            Due.is("a further one", Due.tell(heaps, NONE, "put 0 " + row + ";"), row);
        }
        Due.is("four", heaps.count(), 4);
        Due.is("a fault before", Due.tell(heaps, 3, "less 41;"), NONE);
        Due.is("fault", heaps.fault(0), 2);
        for (String text : new String[] {"new;", "#", "less 41;", "", Due.times(41, "new;")}) {
            Due.is("a fifth", Due.tell(heaps, NONE, text), -2);
            Due.is("no text is read", heaps.fault(0), 0);
            Due.is("no text is read", heaps.fault(1), NONE);
            Due.is("the tape is empty", heaps.end(1), NONE);
            Due.is("four", heaps.count(), 4);
        }
        for (int row = 0; row < 4; row++) {
            Due.is("as it was", heaps.order(0, 1, 0, true), 0);
            Due.is("as it was", heaps.order(row, 1, 0, true), row);
        }
        for (int row = 3; row >= 0; row--) {
            Due.is("in the place of one", Due.tell(heaps, row, "put 0 5" + row + ";"), row);
            Due.is("as told", heaps.order(row, 1, 0, true), 50 + row);
        }
        Due.is("four", heaps.count(), 4);
    }

    // Promise 4: "-2: there is none such (.. the tape is empty then, too; no text is read, FAULT 0)"
    private static void noSuchRow() {
        PastHeaps heaps = Due.of("put 0 5;");
        for (int at : new int[] {1, 2, 3, 4, 5, -2, -3, Integer.MIN_VALUE, Integer.MAX_VALUE}) {
            Due.is("a fault before", Due.tell(heaps, NONE, "#"), NONE);
            Due.is("fault", heaps.fault(0), 1);
            Due.is("none such " + at, Due.tell(heaps, at, at % 2 == 0 ? "new;" : "#"), -2);
            Due.is("no text is read", heaps.fault(0), 0);
            Due.is("no text is read", heaps.fault(1), NONE);
            Due.is("the tape is empty", heaps.end(1), NONE);
            Due.is("one row", heaps.count(), 1);
            Due.is("as it was", heaps.order(0, 1, 0, true), 5);
        }
    }

    // Promise 4: "or in the place of one: its number. NONE: a FAULT"
    private static void inThePlaceOfOne() {
        PastHeaps heaps = Due.of("put 0 5;put 1 6;less 2;");
        Due.is("further", Due.tell(heaps, NONE, "put 0 7;put 1 8;"), 1);
        for (String text : new String[] {"new;#", "less 41;", "", Due.times(41, "new;")}) {
            Due.is("a fault", Due.tell(heaps, 0, text), NONE);
            Due.is("the tape is empty", heaps.end(1), NONE);
            Due.is("as it was", heaps.act(0, NONE, 0), 3);
            Due.is("as it was", heaps.act(0, 1, 2), 6);
            Due.is("as it was", heaps.stop(0), 3);
            Due.is("as it was", heaps.all(0, false), 3);
            Due.is("two rows", heaps.count(), 2);
        }
        Due.is("in its place", Due.tell(heaps, 0, "put 0 9;"), 0);
        Due.is("numbers from 0 on", heaps.walk(0, 1, 0, 3), 0);
        Due.is("things from 0 on", heaps.walk(0, 1, 0, 0), 0);
        Due.is("its key", heaps.walk(0, 1, 0, 1), 9);
        Due.is("its acts alone", heaps.act(0, NONE, 0), 1);
        Due.is("its acts alone", heaps.act(0, 1, 0), -2);
        Due.is("its versions alone", heaps.version(0, 2, 0), -2);
        Due.is("its holders alone", heaps.version(0, 1, 3), 1);
        Due.is("its nodes alone", heaps.all(0, false), 1);
        Due.is("its things alone", heaps.all(0, true), 1);
        Due.is("the other as it was", heaps.order(1, 2, 1, true), 8);
        // an act that can't be is no fault
        Due.is("in its place", Due.tell(heaps, 1, "less 0;"), 1);
        Due.is("stop", heaps.stop(1), 0);
        Due.is("no nodes", heaps.all(1, false), 0);
    }

    // Promise 6: "of act k, .. 1, 2, 3: its numbers as told (NONE without)"
    private static void asTold() {
        PastHeaps heaps = Due.of("less 0;put 40 99;meld 40 00;lower 05 39 07;cut 9 0;new;less 40;");
        int[][] due = {{3, 0, NONE, NONE}, {1, 40, 99, NONE}, {2, 40, 0, NONE}, {4, 5, 39, 7}, {5, 9, 0, NONE},
            {0, NONE, NONE, NONE}, {3, 40, NONE, NONE}};
        Due.is("behind STOP, too", heaps.stop(0), 0);
        Due.is("how many", heaps.act(0, NONE, 0), 7);
        for (int k = 0; k < due.length; k++) {
            for (int what = 0; what < 4; what++) {
                Due.is("act " + k + " " + what, heaps.act(0, k, what), due[k][what]);
            }
        }
        Due.is("in the place of one with more numbers", Due.tell(heaps, 0, "new;less 1;new;less 1;"), 0);
        for (int k = 0; k < 4; k++) {
            Due.is("no second number", heaps.act(0, k, 2), NONE);
            Due.is("no third number", heaps.act(0, k, 3), NONE);
        }
    }

    // Promise 6: "-2: there is none such (of any), or for another what"
    private static void noSuchAct() {
        PastHeaps heaps = Due.of("put 0 5;put 1 5;");
        for (int k : new int[] {2, 3, 39, 40, 41, -2, -3, Integer.MIN_VALUE, Integer.MAX_VALUE}) {
            for (int what = 0; what < 4; what++) {
                Due.is("no act " + k, heaps.act(0, k, what), -2);
            }
        }
        for (int what : new int[] {-2, -1, 4, 5, Integer.MIN_VALUE, Integer.MAX_VALUE}) {
            Due.is("another what", heaps.act(0, 0, what), -2);
            Due.is("another what", heaps.act(0, 1, what), -2);
            Due.is("another what", heaps.act(0, NONE, what), -2);
        }
        for (int what = 1; what < 4; what++) {
            Due.is("another what", heaps.act(0, NONE, what), -2);
        }
        for (int row : new int[] {1, 2, 3, 4, -1, -2, Integer.MIN_VALUE, Integer.MAX_VALUE}) {
            Due.is("no row", heaps.act(row, NONE, 0), -2);
            Due.is("no row", heaps.act(row, 0, 0), -2);
        }
        heaps = Due.of(Due.times(40, "new;"));
        Due.is("the last one", heaps.act(0, 39, 0), 0);
        Due.is("behind it", heaps.act(0, 40, 0), -2);
    }

    // Terms 1: "VERSION 0 is an empty heap; act k makes VERSION k + 1"
    private static void versionsByActs() {
        PastHeaps heaps = Due.of("put 0 7;new;put 0 8;less 1;");
        int[] sizes = {0, 1, 0, 1, 0};
        for (int v = 0; v < sizes.length; v++) {
            Due.is("size of " + v, heaps.version(0, v, 0), sizes[v]);
        }
        Due.is("act 0's", heaps.order(0, 1, 0, true), 7);
        Due.is("act 2's", heaps.order(0, 3, 0, true), 8);
        heaps = Due.of(Due.times(39, "new;") + "put 0 5;");
        Due.is("act 39's", heaps.order(0, 40, 0, true), 5);
    }

    // Promises 37, 38: "true; false for another k", "false if there is none such"
    private static void noSuchImage() {
        PastHeaps heaps = Due.of("put 0 5;");
        Due.is("image", heaps.image(1), true);
        Due.is("text", Due.tell(heaps, NONE, "put 0 6;"), 1);
        Due.is("fault", Due.tell(heaps, NONE, "#"), NONE);
        Due.write(heaps, "put 0 7;", 0);
        int[] others = {-1, -2, 3, 4, Integer.MIN_VALUE, Integer.MAX_VALUE};
        for (int k : others) {
            Due.is("no image " + k, heaps.image(k), false);
            Due.is("no image " + k, heaps.again(k), false);
        }
        Due.is("not yet", heaps.again(0), false);
        Due.is("not yet", heaps.again(2), false);
        Due.is("all as it was", heaps.count(), 2);
        Due.is("all as it was", heaps.order(1, 1, 0, true), 6);
        Due.is("the fault as it was", heaps.fault(0), 1);
        Due.is("the tape as it was", heaps.end(9), NONE);
        Due.is("the tape as it was", heaps.text(NONE), 2);
        Due.is("the tape as it was", heaps.order(2, 1, 0, true), 7);
        Due.is("the image as it was", heaps.again(1), true);
        Due.is("the image as it was", heaps.count(), 1);
        for (int k = 0; k < 3; k++) {
            Due.is("image " + k, heaps.image(k), true);
            Due.is("image " + k, heaps.again(k), true);
        }
    }

    // Promise 37: an image of an object as it was made
    private static void imageOfNew() {
        PastHeaps heaps = new PastHeaps();
        Due.is("image", heaps.image(2), true);
        for (int row = 0; row < 4; row++) {
            Due.is("text", Due.tell(heaps, NONE, "put 0 5;"), row);
        }
        Due.is("fault", Due.tell(heaps, 0, ";"), NONE);
        heaps.feed(1, 2, 3, 4, 5);
        Due.is("again", heaps.again(2), true);
        Due.is("no rows", heaps.count(), 0);
        Due.is("no row", heaps.stop(0), NONE);
        Due.is("no row", heaps.version(0, 0, 0), -2);
        Due.is("no fault", heaps.fault(0), 0);
        Due.is("no place", heaps.fault(1), NONE);
        Due.is("no tape", heaps.end(1), NONE);
        Due.is("a row anew", Due.tell(heaps, NONE, "put 0 6;"), 0);
        Due.is("its key", heaps.order(0, 1, 0, true), 6);
        Due.is("again", heaps.again(2), true);
        Due.is("no rows", heaps.count(), 0);
    }

    // Promises 37, 38: "all that is told (the tape, the FAULT, too), as it is now", "All that is as image k has it"
    private static void imageOfAll() {
        PastHeaps heaps = Due.of("put 0 1;put 1 2;");
        Due.is("text", Due.tell(heaps, NONE, "put 0 3;less 0;"), 1);
        Due.is("fault", Due.tell(heaps, NONE, "cut 0 1;cut 41 1;"), NONE);
        Due.write(heaps, "put 0 4;", 0);
        Due.is("image", heaps.image(0), true);
        Due.is("the tape", heaps.text(0), 0);
        Due.write(heaps, "put 0 9;new;", 0);
        Due.is("image", heaps.image(1), true);
        Due.is("text", Due.tell(heaps, NONE, "new;"), 2);
        for (int time = 0; time < 2; time++) {
            Due.is("again", heaps.again(0), true);
            Due.is("count", heaps.count(), 2);
            Due.is("fault", heaps.fault(0), 2);
            Due.is("place", heaps.fault(1), 12);
            Due.is("row 0", heaps.stop(0), 2);
            Due.is("row 0", heaps.order(0, 2, 1, true), 2);
            Due.is("row 1, behind STOP", heaps.act(1, 1, 0), 3);
            Due.is("row 1", heaps.stop(1), 1);
            Due.is("row 2", heaps.stop(2), NONE);
            Due.is("the tape", heaps.end(9), NONE);
            Due.is("the tape", heaps.text(1), 1);
            Due.is("the tape's key", heaps.order(1, 1, 0, true), 4);
        }
        Due.is("the other image", heaps.again(1), true);
        Due.is("count", heaps.count(), 2);
        Due.is("no fault", heaps.fault(0), 0);
        Due.is("row 0", heaps.order(0, 1, 0, true), 4);
        Due.is("row 1", heaps.order(1, 1, 0, true), 3);
        Due.is("the tape", heaps.text(NONE), 2);
        Due.is("the tape's acts", heaps.act(2, NONE, 0), 2);
        Due.is("in the place of an image", heaps.image(0), true);
        Due.is("again", heaps.again(1), true);
        Due.is("again", heaps.again(0), true);
        Due.is("as it was then", heaps.count(), 3);
        Due.is("tape as it was then", heaps.end(1), NONE);
    }

    // "An object is used for at most 512 calls": the last of them is answered as the first one is
    private static void lastCall() {
        PastHeaps heaps = new PastHeaps();
        for (int time = 0; time < 127; time++) {
            int row = time % 4;
            int key = 0x30 + time % 10;
            Due.is("feed", heaps.feed(0x70757420, 0x30200000 | key << 8 | 0x3b, 0x70757420, 0x3120393b, 0x20202020), 20);
            Due.is("end", heaps.end(20), 20);
            Due.is("text", heaps.text(time < 4 ? NONE : row), row);
            Due.is("key", heaps.order(row, 1, 0, true), time % 10);
        }
        // of 512 calls four are left
        Due.is("image", heaps.image(2), true);
        Due.is("nodes", heaps.all(2, false), 3);
        Due.is("again", heaps.again(2), true);
        Due.is("the last call", heaps.order(2, 2, 1, true), 9);
    }
}
