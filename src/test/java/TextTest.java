/** Promises 1 to 8, 35, 37, 70, and 73 to 75, with answers worked out by hand. */
public final class TextTest {
    private static final Due DUE = new Due();
    private static final String HEAD = "tale years 4 law 2 odds 7;";
    private static final String SIX = "part charm 1 tires 1;part charm 1 tires 1;part charm 1 tires 1;"
        + "part charm 1 tires 1;part charm 1 tires 1;part charm 1 tires 1;";

    public static void main(String[] args) {
        newObject();
        tape();
        lines();
        faultsOfTokens();
        faultsOfNumbers();
        faultsOfTooMany();
        whatWasTold();
        counts();
        rows();
        DUE.end();
    }

    private static void newObject() {
        UncutTale x = new UncutTale();
        for (int what = 0; what <= 9; what++) {
            DUE.is("count of a new one", x.count(what), 0);
        }
        DUE.is("all of a new one", x.all(), -2);
        DUE.is("fault 0 of a new one", x.fault(0), 0);
        DUE.is("fault 1 of a new one", x.fault(1), -1);
        DUE.is("fault 2 of a new one", x.fault(2), -1);
        DUE.is("back of a new one", x.back(0), -6);
        DUE.is("write of a new one", x.write(0, 0, 1), -6);
    }

    private static void tape() {
        UncutTale x = new UncutTale();
        DUE.is("end 0 of nothing", x.end(0), 0);
        DUE.is("end 1 of nothing", x.end(1), -1);
        for (int i = 1; i <= 35; i++) {
            DUE.is("feed " + i, x.feed(-1, 2, 3, 4, 5), 20 * i);
        }
        DUE.is("feed beyond 700", x.feed(1, 2, 3, 4, 5), -1);
        DUE.is("700 stay", x.count(8), 700);
        DUE.is("end beyond", x.end(701), -1);
        DUE.is("end below", x.end(-1), -1);
        DUE.is("end of all", x.end(700), 700);
        DUE.is("end", x.end(681), 681);
        DUE.is("feed 701", x.feed(1, 2, 3, 4, 5), -1);
        DUE.is("end 680", x.end(680), 680);
        DUE.is("feed 700", x.feed(1, 2, 3, 4, 5), 700);
        DUE.is("end 0", x.end(0), 0);
        DUE.is("an empty tale", x.tale(), 0);
        // "tale years 3 law 1 odds 9;" in numbers: the highest byte comes first
        DUE.is("feed", x.feed(0x74616c65, 0x20796561, 0x72732033, 0x206c6177, 0x2031206f), 20);
        DUE.is("feed", x.feed(0x64647320, 0x393bc0ff, -1, 0, 0), 40);
        DUE.is("end", x.end(26), 26);
        DUE.is("tale", x.tale(), 1);
        DUE.is("years", x.count(0), 3);
        DUE.is("law", x.count(1), 1);
        DUE.is("odds", x.count(2), 9);
        DUE.is("the tape is empty then", x.count(8), 0);
    }

    private static void lines() {
        tell("", 0);
        tell(" \n ", 0);
        tell(HEAD, 1);
        tell("tale\nyears4law2odds7;part charm0tires 9stiff 060;\n\n part charm 60 tires 0;fold 0 1;knife 1at 11;", 5);
        tell(HEAD + SIX, 7);
        UncutTale x = Due.told(HEAD + SIX);
        DUE.is("another tale in its place", x.tale(), 0);
        DUE.is("none is left", x.count(3), 0);
        DUE.is("nor a year", x.open(0), -2);
        for (int what = 0; what <= 9; what++) {
            DUE.is("nothing to count", x.count(what), 0);
        }
        x = Due.told(HEAD + "part charm 5 tires 1;");
        x.knife(0, 0);
        Due.put(x, HEAD + "nonsense");
        DUE.is("a fault", x.tale(), -4);
        DUE.is("its place", x.fault(1), 26);
        DUE.is("all stays: bytes", x.count(8), 34);
        DUE.is("all stays: parts", x.count(3), 1);
        DUE.is("all stays: acts", x.count(6), 1);
        x.end(26);
        DUE.is("mended", x.tale(), 1);
        DUE.is("nothing done", x.count(6), 0);
        DUE.is("no fault", x.fault(0), 0);
        DUE.is("no place", x.fault(1), -1);
        DUE.is("another what", x.fault(-1), -1);
        DUE.is("another what", x.fault(2), -1);
    }

    private static void faultsOfTokens() {
        fault("tale years 1 law 0 odds 0", 1, 25);
        fault("tale years 1 law 0 odds 0 \n ", 1, 28);
        fault("tale", 1, 4);
        fault(";", 1, 0);
        fault(HEAD + ";", 1, 26);
        fault("part charm 1 tires 1;", 1, 0);
        fault(" wort", 1, 1);
        fault("taleyears 1 law 0 odds 0;", 1, 0);
        fault("tale 1;", 1, 5);
        fault("tale years law 1 odds 1;", 1, 11);
        fault("tale years 1 odds 1;", 1, 13);
        fault(HEAD + HEAD, 1, 26);
        fault(HEAD + "Part charm 1 tires 1;", 1, 26);
        fault(HEAD + "part charm 1 tires 1 stiff;", 1, 52);
        fault(HEAD + "part charm 1 tires 1 fold 0 0;", 1, 47);
        fault(HEAD + "part charm 1 tires 1 stiff 1 stiff 1;", 1, 55);
        fault(HEAD + "part charm -1 tires 1;", 1, 37);
        fault(HEAD + "part tires 1 charm 1;", 1, 31);
        fault(HEAD + SIX + "fold 0 at 1;", 1, 159);
        fault(HEAD + SIX + "knife 0 1;", 1, 160);
        fault(HEAD + "\t", 1, 26);
        fault(HEAD + (char) 0, 1, 26);
        fault(HEAD + (char) 233, 1, 26);
        fault(HEAD + "{", 1, 26);
        fault(HEAD + "`", 1, 26);
        fault(HEAD + "12", 1, 26);
        fault(HEAD + "parts", 1, 26);
        fault(HEAD + "par t", 1, 26);
        fault(HEAD + "cart charm 1 tires 1;", 1, 26);
        fault(HEAD + "pars charm 1 tires 1;", 1, 26);
        fault(HEAD + "partz charm 1 tires 1;", 1, 26);
        fault(HEAD + "parta charm 1 tires 1;", 1, 26);
        fault("talz years 1 law 0 odds 0;", 1, 0);
        fault(HEAD + "part charm 1:", 1, 38);
        fault(HEAD + "part charm 1/", 1, 38);
    }

    private static void faultsOfNumbers() {
        fault("tale years 0 law 0 odds 0;", 2, 11);
        fault("tale years 13 law 9 odds 0;", 2, 11);
        fault("tale years 12 law 4 odds 0;", 2, 18);
        fault("tale years 12 law 3 odds 11;", 2, 25);
        tell("tale years 12 law 3 odds 10;", 1);
        fault(HEAD + "part charm 61 tires 1;", 2, 37);
        fault(HEAD + "part charm 60 tires 10;", 2, 46);
        fault(HEAD + "part charm 60 tires 9 stiff 0;", 2, 54);
        fault(HEAD + "part charm 60 tires 9 stiff 61;", 2, 54);
        fault(HEAD + "part charm 4294967297 tires 9;", 2, 37);
        fault(HEAD + "part charm 18446744073709551617 tires 9;", 2, 37);
        fault(HEAD + "fold 0 1;", 2, 31);
        fault(HEAD + "knife 0 at 1;", 2, 32);
        fault(HEAD + SIX + "fold 6 6;", 2, 157);
        fault(HEAD + SIX + "fold 5 6;", 2, 159);
        fault(HEAD + SIX + "fold 5 5;", 2, 159);
        fault(HEAD + SIX + "fold 5 4;fold 4 5;", 2, 168);
        fault(HEAD + SIX + "fold 5 4;fold 5 4;", 2, 168);
        tell(HEAD + SIX + "fold 5 4;fold 3 5;fold 4 3;", 10);
        fault(HEAD + SIX + "knife 6 at 1;", 2, 158);
        fault(HEAD + SIX + "knife 5 at 12;", 2, 163);
        tell(HEAD + SIX + "knife 5 at 11;knife 5 at 11;", 9);
        fault(HEAD + SIX + "fold 5 5 ?", 2, 159);
    }

    private static void faultsOfTooMany() {
        fault(HEAD + SIX + "part charm 1 tires 1;", 3, 152);
        fault(HEAD + SIX + "part?", 3, 152);
        String folds = "fold 0 1;fold 0 2;fold 0 3;fold 0 4;fold 0 5;fold 1 2;fold 1 3;fold 1 4;fold 1 5;fold 2 3;";
        tell(HEAD + SIX + folds, 17);
        fault(HEAD + SIX + folds + "fold 2 4;", 3, 242);
        String knives = "knife 0 at 0;knife 0 at 0;knife 0 at 0;knife 0 at 0;"
            + "knife 0 at 0;knife 0 at 0;knife 0 at 0;knife 0 at 0;";
        tell(HEAD + SIX + folds + knives, 25);
        fault(HEAD + SIX + knives + "knife", 3, 256);
    }

    private static void whatWasTold() {
        UncutTale x = Due.told(HEAD + "part charm 20 tires 3 stiff 2;part charm 30 tires 5;part charm 10 tires 4;"
            + "part charm 1 tires 1;part charm 0 tires 0;fold 0 1;fold 2 1;fold 2 3;knife 0 at 9;knife 1 at 0;knife 0 at 0;");
        DUE.is("charm", x.part(0, 0), 20);
        DUE.is("tires", x.part(0, 1), 3);
        DUE.is("stiff", x.part(0, 2), 2);
        DUE.is("stiff not told", x.part(1, 2), 0);
        DUE.is("no such what", x.part(0, 3), -2);
        DUE.is("no such what", x.part(0, -1), -2);
        DUE.is("no such part", x.part(5, 0), -2);
        DUE.is("no such part", x.part(-1, 0), -2);
        DUE.is("near", x.near(1), 5);
        DUE.is("near", x.near(2), 10);
        DUE.is("near", x.near(4), 0);
        DUE.is("near", x.near(5), -2);
        DUE.is("near", x.near(-1), -2);
        DUE.is("far", x.far(0, 3), 3);
        DUE.is("far", x.far(3, 1), 2);
        DUE.is("far", x.far(1, 0), 1);
        DUE.is("far", x.far(4, 4), 0);
        DUE.is("no way", x.far(0, 4), -1);
        DUE.is("far", x.far(0, 5), -2);
        DUE.is("far", x.far(-1, 0), -2);
        DUE.is("pieces", x.pieces(), 2);
        DUE.is("pieces of none", Due.told(HEAD).pieces(), 0);
        DUE.is("pieces of six", Due.told(HEAD + SIX).pieces(), 6);
        DUE.is("pieces without a tale", new UncutTale().pieces(), -2);
        DUE.is("knives", x.knives(0), 5);
        DUE.is("knives", x.knives(1), 2);
        DUE.is("knives", x.knives(2), 0);
        DUE.is("knives", x.knives(5), -2);
        DUE.is("farthest", Due.told(HEAD + SIX + "fold 0 1;fold 1 2;fold 2 3;fold 3 4;fold 4 5;").far(5, 0), 5);
        DUE.is("one piece", Due.told(HEAD + SIX + "fold 0 5;fold 5 1;fold 1 4;fold 4 2;fold 2 3;").pieces(), 1);
    }

    private static void counts() {
        UncutTale x = Due.told(HEAD + SIX + "fold 0 1;fold 0 2;knife 0 at 0;knife 1 at 0;knife 1 at 1;");
        x.air(0, 0);
        Due.put(x, "abc");
        x.row(3, 0, 0);
        x.row(1, 3, 60);
        int[] due = {-1, 4, 2, 7, 6, 2, 3, 1, 12, 3, 2, -1};
        for (int what = -1; what <= 10; what++) {
            DUE.is("count " + what, x.count(what), due[what + 1]);
        }
    }

    private static void rows() {
        UncutTale x = Due.told("tale years 1 law 0 odds 0;part charm 1 tires 1;");
        DUE.is("row", x.row(4, 0, 1), -2);
        DUE.is("row", x.row(-1, 0, -1), -2);
        DUE.is("row", x.row(0, 4, 1), -2);
        DUE.is("row", x.row(0, -1, -1), -2);
        DUE.is("row", x.row(0, 0, 61), -2);
        DUE.is("row", x.row(0, 0, -1), -3);
        DUE.is("none yet", x.write(0, 0, 0), -6);
        DUE.is("row", x.row(0, 0, 60), 0);
        DUE.is("write the last", x.write(0, 59, 0), 0);
        DUE.is("write", x.write(0, 60, 0), -7);
        DUE.is("write", x.write(0, -1, 0), -7);
        DUE.is("write", x.write(4, 0, 0), -2);
        DUE.is("write", x.write(-1, 0, 0), -2);
        DUE.is("write", x.write(1, -1, 0), -6);
        DUE.is("row below 0", x.row(0, 1, -5), -3);
        DUE.is("the slot stays", x.write(0, 59, 0), 0);
        DUE.is("row", x.row(0, 0, 3), 0);
        // a part, a year, how stiff: 256 is cut to 0 by one byte, 65,536 by two, 2^32 by four, not by eight
        for (int width = 0; width < 4; width++) {
            x.row(0, width, 3);
            x.write(0, 1, width == 3 ? 1L : 1L + (1L << (8 << width)));
            x.write(0, 2, 1);
            DUE.is("cut to width " + width, x.low(0, 0), 0);
        }
        x.write(0, 1, 1L + (1L << 32));
        DUE.is("not cut", x.low(0, 0), -2);
        x.row(0, 2, 3);
        DUE.is("all 0 anew", x.high(0, 0), 0);
        pastes(x);
    }

    private static void pastes(UncutTale x) {
        x.row(1, 0, 6);
        int[] seen = {0, 1, 40, 7, 7, 7};
        for (int i = 0; i < 6; i++) {
            x.write(1, i, seen[i]);
        }
        x.row(2, 0, 3);
        x.row(3, 1, 3);
        DUE.is("paste", x.paste(1, 0, 2, 0, 3), 0);
        DUE.is("as they were", x.low(2, 0), 39);
        DUE.is("paste", x.paste(4, 0, 2, 0, 1), -2);
        DUE.is("paste", x.paste(1, 0, -1, 0, 1), -2);
        DUE.is("another width", x.paste(1, 9, 3, 0, 1), -8);
        DUE.is("beyond", x.paste(1, 4, 2, 0, 3), -7);
        DUE.is("beyond", x.paste(1, 0, 2, 1, 3), -7);
        DUE.is("below", x.paste(1, -1, 2, 0, 1), -7);
        DUE.is("below", x.paste(1, 0, 2, -1, 1), -7);
        DUE.is("below", x.paste(1, 0, 2, 0, -1), -7);
        DUE.is("far beyond", x.paste(1, 2147483647, 2, 0, 2147483647), -7);
        DUE.is("nothing happened", x.low(2, 0), 39);
        DUE.is("none at the end", x.paste(1, 6, 2, 3, 0), 0);
        // 0 1 40 7 7 7 -> 0 0 1 40 7 7: each of them as it was, though the rows lie over one another
        DUE.is("over itself", x.paste(1, 0, 1, 1, 3), 0);
        DUE.is("paste", x.paste(1, 1, 2, 0, 3), 0);
        DUE.is("as they were", x.high(2, 0), 39);
        DUE.is("over itself, back", x.paste(1, 1, 1, 0, 5), 0);
        DUE.is("paste", x.paste(1, 0, 2, 0, 3), 0);
        DUE.is("as they were", x.high(2, 0), 39);
        UncutTale bare = new UncutTale();
        bare.row(0, 0, 1);
        DUE.is("one has nothing", bare.paste(0, 0, 1, 0, 1), -6);
        DUE.is("one has nothing", bare.paste(1, -1, 0, 0, 1), -6);
    }

    private static void tell(String text, int lines) {
        UncutTale x = new UncutTale();
        Due.put(x, text);
        DUE.is("tale of " + text, x.tale(), lines);
        DUE.is("lines of " + text, x.count(7), lines);
        DUE.is("fault of " + text, x.fault(0), 0);
    }

    private static void fault(String text, int what, int place) {
        UncutTale x = new UncutTale();
        Due.put(x, text);
        DUE.is("tale of " + text, x.tale(), -4);
        DUE.is("fault of " + text, x.fault(0), what);
        DUE.is("place of " + text, x.fault(1), place);
        DUE.is("bytes of " + text, x.count(8), text.length());
        DUE.is("lines of " + text, x.count(7), 0);
    }
}
