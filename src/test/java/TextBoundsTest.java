/**
 * The edges of promises 1 to 8, 35, 37, 70 and 73 to 75, and of the block on TOKENS, FAULTS and SLOTS.
 * In a faulty text ^ stands ahead of the place that is due.
 */
public final class TextBoundsTest {
    private static final Due DUE = new Due();
    private static final String HEAD = "tale years 4 law 2 odds 7;";
    private static final String ONE = "part charm 1 tires 1;";
    private static final String SIX = ONE + ONE + ONE + ONE + ONE + ONE;
    private static final String TEN = "fold 0 1;fold 0 2;fold 0 3;fold 0 4;fold 0 5;fold 1 2;fold 1 3;fold 1 4;fold 1 5;fold 2 3;";
    private static final String EIGHT = "knife 0 at 0;knife 1 at 1;knife 2 at 2;knife 3 at 3;"
        + "knife 4 at 4;knife 5 at 5;knife 0 at 11;knife 0 at 0;";

    public static void main(String[] args) {
        promise2Feed();
        promise3End();
        promise4Tale();
        promise5Fault();
        tokens();
        ends();
        bounds();
        tooMany();
        firstByItsPlace();
        promises6To8And35And37();
        promise70Count();
        promise73Row();
        promise74Write();
        promise75Paste();
        DUE.end();
    }

    private static void promise2Feed() {
        UncutTale x = new UncutTale();
        for (int i = 1; i <= 34; i++) {
            x.feed(0, 0, 0, 0, 0);
        }
        DUE.is("2: 680 bytes", x.count(8), 680);
        DUE.is("2: 700 are not more than 700", x.feed(0, 0, 0, 0, 0), 700);
        DUE.is("2: 720 are", x.feed(0, 0, 0, 0, 0), -1);
        DUE.is("2: none come", x.count(8), 700);
        x.end(681);
        DUE.is("2: 701 are more than 700", x.feed(0, 0, 0, 0, 0), -1);
        DUE.is("2: none come, not even the 19 that would fit", x.count(8), 681);
        x.end(680);
        DUE.is("2: it can be fed again", x.feed(0, 0, 0, 0, 0), 700);
        x.end(0);
        DUE.is("2: from none again", x.feed(0, 0, 0, 0, 0), 20);
        // the highest byte first, 128 to 255 too: the first byte that is no TOKEN tells where it came to stand
        int[][] numbers = {{0xFF202020, 0}, {0x20FF2020, 1}, {0x2020FF20, 2}, {0x202020FF, 3}, {0x20802020, 1}, {0x2020207F, 3}};
        for (int[] n : numbers) {
            for (int which = 0; which < 5; which++) {
                UncutTale y = new UncutTale();
                int blank = 0x20202020;
                y.feed(which == 0 ? n[0] : blank, which == 1 ? n[0] : blank, which == 2 ? n[0] : blank,
                    which == 3 ? n[0] : blank, which == 4 ? n[0] : blank);
                DUE.is("2: a byte that is no TOKEN", y.tale(), -4);
                DUE.is("2: four of each number, the highest first", y.fault(1), 4 * which + n[1]);
            }
        }
    }

    private static void promise3End() {
        UncutTale x = new UncutTale();
        DUE.is("3: 0 of none", x.end(0), 0);
        DUE.is("3: it has not so many", x.end(1), -1);
        Due.put(x, HEAD);
        for (int n : new int[] {27, 40, 700, 701, Integer.MAX_VALUE, -1, -26, Integer.MIN_VALUE}) {
            DUE.is("3: not so many, or below 0", x.end(n), -1);
            DUE.is("3: nothing happens", x.count(8), 26);
        }
        DUE.is("3: all of them", x.end(26), 26);
        DUE.is("3: one less", x.end(25), 25);
        DUE.is("3: what was cut off is gone", x.end(26), -1);
        DUE.is("3: the ; is gone", x.tale(), -4);
        DUE.is("3: and the end stands there", x.fault(1), 25);
        Due.put(x, ";");
        DUE.is("3: bytes come behind the end", x.tale(), 1);
        Due.put(x, "tale nonsense");
        x.end(4);
        Due.put(x, " years 1 law 0 odds 0;");
        DUE.is("3: nothing of what was cut off comes back", x.tale(), 1);
    }

    private static void promise4Tale() {
        UncutTale x = Due.told(HEAD + SIX + TEN + EIGHT);
        x.knife(0, 0);
        x.row(2, 1, 3);
        DUE.is("4: the TAPE is empty then", x.count(8), 0);
        Due.put(x, HEAD + "part charm 61");
        DUE.is("4: a FAULT", x.tale(), -4);
        int[] stays = {4, 2, 7, 6, 10, 8, 1, 25, 39, 1};
        for (int what = 0; what < stays.length; what++) {
            DUE.is("4: all stays, count " + what, x.count(what), stays[what]);
        }
        x.end(26);
        DUE.is("4: in place of another", x.tale(), 1);
        int[] then = {4, 2, 7, 0, 0, 0, 0, 1, 0, 1};
        for (int what = 0; what < then.length; what++) {
            DUE.is("4: nothing done, and nothing of the other, count " + what, x.count(what), then[what]);
        }
        DUE.is("4: nothing to take back", x.undo(), -5);
        DUE.is("4: an empty TAPE", x.tale(), 0);
        DUE.is("4: there is none then", x.all(), -2);
        DUE.is("4: of no FAULT", x.fault(0), 0);
        DUE.is("4: again", x.tale(), 0);
        StringBuilder blanks = new StringBuilder();
        for (int i = 0; i < 350; i++) {
            blanks.append(" \n");
        }
        x = Due.told(HEAD);
        Due.put(x, blanks.toString());
        DUE.is("4: 700 blanks", x.count(8), 700);
        DUE.is("4: are no LINE", x.tale(), 0);
        DUE.is("4: nor a TALE", x.open(0), -2);
        String full = HEAD + SIX + TEN + EIGHT;
        Due.put(x, full + blanks.substring(0, 700 - full.length()));
        DUE.is("4: a full TAPE", x.count(8), 700);
        DUE.is("4: has 25 LINES at most", x.tale(), 25);
        Due.put(x, blanks.substring(0, 700 - full.length()) + full);
        DUE.is("4: up to its last byte", x.tale(), 25);
    }

    private static void promise5Fault() {
        UncutTale x = new UncutTale();
        DUE.is("5: ahead of any", x.fault(0), 0);
        DUE.is("5: ahead of any", x.fault(1), -1);
        for (int what : new int[] {-1, 2, 3, Integer.MIN_VALUE, Integer.MAX_VALUE}) {
            DUE.is("5: another what, ahead of any", x.fault(what), -1);
        }
        Due.put(x, "?");
        DUE.is("5: not told yet", x.fault(1), -1);
        x.tale();
        DUE.is("5: its FAULT", x.fault(0), 1);
        DUE.is("5: a place of 0", x.fault(1), 0);
        for (int what : new int[] {-1, 2, 3, Integer.MIN_VALUE, Integer.MAX_VALUE}) {
            DUE.is("5: another what, of a FAULT", x.fault(what), -1);
        }
        x.end(0);
        Due.put(x, HEAD);
        DUE.is("5: of the latest tale() still", x.fault(0), 1);
        x.image(0);
        x.back(0);
        DUE.is("5: of the latest tale() still", x.fault(0), 1);
        x.tale();
        DUE.is("5: without", x.fault(0), 0);
        DUE.is("5: without", x.fault(1), -1);
        Due.put(x, HEAD + "fold 0");
        x.tale();
        DUE.is("5: another FAULT", x.fault(0), 2);
        DUE.is("5: another place", x.fault(1), 31);
        x.end(0);
        x.tale();
        DUE.is("5: an empty one is without", x.fault(0), 0);
        DUE.is("5: an empty one is without", x.fault(1), -1);
    }

    private static void tokens() {
        for (int c = 0; c < 256; c++) {
            char sign = (char) c;
            if (sign == ' ' || sign == '\n') {
                lines(HEAD + sign + ONE, 2);
                lines(HEAD + sign, 1);
                fault(HEAD + "^pa" + sign + "rt charm 1 tires 1;", 1);
                fault(HEAD + "part charm 1" + sign + "^2 tires 1;", 1);
            } else {
                boolean letter = sign >= 'a' && sign <= 'z';
                boolean digit = sign >= '0' && sign <= '9';
                fault(HEAD + "^" + sign + " " + ONE, 1);
                fault(HEAD + "^pa" + sign + "rt charm 1 tires 1;", 1);
                faultAt(HEAD + "part charm 1" + sign + "2 tires 1;", digit ? 2 : 1, HEAD.length() + (digit ? 11 : 12));
                faultAt(HEAD + "part charm 1 tires" + sign + " 1;", 1, HEAD.length() + (letter ? 13 : digit ? 20 : 18));
            }
        }
        String unended = HEAD.substring(0, HEAD.length() - 1);
        for (int c = 0; c < 256; c++) {
            char sign = (char) c;
            boolean blank = sign == ' ' || sign == '\n';
            if (sign == ';') {
                lines(unended + sign, 1);
                lines(HEAD + ONE.substring(0, 20) + sign, 2);
            } else {
                // no other sign ends a LINE; a digit makes 7 into 70 to 79 and 1 into 10 to 19, which are out of bounds
                boolean digit = sign >= '0' && sign <= '9';
                faultAt(unended + sign, digit ? 2 : 1, digit ? 24 : blank ? 26 : 25);
                faultAt(HEAD + ONE.substring(0, 20) + sign, digit ? 2 : 1, digit ? 45 : blank ? 47 : 46);
                faultAt(unended + " " + sign + HEAD, 1, blank ? 27 : 26);
            }
        }
        lines("tale\nyears\n4\nlaw\n2\nodds\n7\n;\n", 1);
        lines("  tale  years4law2odds7  ;part charm0tires0;", 2);
        fault("^taleyears 4 law 2 odds 7;", 1);
        fault(HEAD + "part ^charmtires 1;", 1);
        fault("^Tale years 4 law 2 odds 7;", 1);
        fault("^sale years 4 law 2 odds 7;", 1);
        fault(HEAD + "^pars charm 1 tires 1;", 1);
        fault(HEAD + "^parts charm 1 tires 1;", 1);
        fault(HEAD + "^art charm 1 tires 1;", 1);
        fault(HEAD + ONE + ONE + "^bold 0 1;", 1);
        fault(HEAD + ONE + "^knive 0 at 0;", 1);
        fault("tale ^Years 4 law 2 odds 7;", 1);
        fault("tale years ^-1 law 2 odds 7;", 1);
        fault("tale years ^+1 law 2 odds 7;", 1);
        fault("tale years 1^.0 law 2 odds 7;", 1);
        fault("tale years 1^, law 2 odds 7;", 1);
        fault(HEAD + "part charm 1 tires 1 stiff 1;^;", 1);
        fault("^; " + HEAD, 1);
        fault("^1 " + HEAD, 1);
        fault("^part charm 1 tires 1;", 1);
        fault("^fold 0 1;", 1);
        fault("^knife 0 at 0;", 1);
        fault("^wort;", 1);
        fault("\n ^odds", 1);
        fault(HEAD + "^" + HEAD, 1);
        fault(HEAD + ONE + "^tale", 1);
        fault(HEAD + "part ^tale", 1);
        fault("tale ^tale years 4 law 2 odds 7;", 1);
        fault(HEAD + "^years 4;", 1);
        fault(HEAD + "^charm 4;", 1);
        fault(HEAD + "^stiff 4;", 1);
        fault(HEAD + "^at 4;", 1);
        fault(HEAD + ONE + "fold 0 ^at 1;", 1);
        fault(HEAD + ONE + "knife ^at 1;", 1);
        fault(HEAD + ONE + "knife 0 ^1;", 1);
        fault(HEAD + ONE + "knife 0 at ^at 1;", 1);
        fault(HEAD + "part charm 1 tires 1 ^tires 1;", 1);
        fault(HEAD + "part charm 1 ^stiff 1 tires 1;", 1);
        fault(HEAD + "part charm 1 tires 1 stiff ^stiff 1;", 1);
        fault(HEAD + "part charm 1 tires 1 stiff 1 ^stiff 1;", 1);
        fault(HEAD + "part charm 1 tires 1 stiff ^;", 1);
    }

    /** The end stands where no TOKEN may: a text cut behind any of its TOKENS but ; has its FAULT at the end. */
    private static void ends() {
        String[] tokens = {"tale", "years", "12", "law", "3", "odds", "10", ";", "part", "charm", "60", "tires", "9", "stiff", "60",
            ";", "part", "charm", "0", "tires", "0", ";", "fold", "1", "0", ";", "knife", "1", "at", "11", ";"};
        StringBuilder text = new StringBuilder();
        int lines = 0;
        for (String token : tokens) {
            String before = text.toString();
            text.append(token);
            if (token.equals(";")) {
                lines++;
                lines(text.toString(), lines);
                lines(text + "\n ", lines);
                text.append(' ');
                continue;
            }
            fault(text + "^", 1);
            fault(text + " \n ^", 1);
            boolean word = token.charAt(0) >= 'a';
            for (int cut = 1; cut < token.length(); cut++) {
                String part = token.substring(0, cut);
                fault(word ? before + "^" + part : before + part + "^", 1);
            }
            text.append(' ');
        }
    }

    private static void bounds() {
        String[][] forms = {{"tale years ", " law 0 odds 0;", "1", "12", "0", "13"}, {"tale years 1 law ", " odds 0;", "0", "3", "4", "9"},
            {"tale years 1 law 0 odds ", ";", "0", "10", "11", "99"}, {HEAD + "part charm ", " tires 0;", "0", "60", "61", "100"},
            {HEAD + "part charm 0 tires ", ";", "0", "9", "10", "90"}, {HEAD + "part charm 0 tires 0 stiff ", ";", "1", "60", "0", "61"},
            {HEAD + ONE + ONE + "fold ", " 1;", "0", "0", "2", "6"}, {HEAD + ONE + ONE + "fold 1 ", ";", "0", "0", "2", "1"},
            {HEAD + ONE + ONE + "knife ", " at 0;", "0", "1", "2", "6"}, {HEAD + ONE + "knife 0 at ", ";", "0", "11", "12", "110"}};
        for (String[] form : forms) {
            int many = form[0].startsWith(HEAD) ? form[0].split(";").length : 1;
            lines(form[0] + form[2] + form[1], many);
            lines(form[0] + form[3] + form[1], many);
            lines(form[0] + "000000000000000000000000000000" + form[3] + form[1], many);
            fault(form[0] + "^" + form[4] + form[1], 2);
            fault(form[0] + "^" + form[5] + form[1], 2);
            for (String huge : new String[] {"256", "65536", "2147483647", "2147483648", "4294967296", "4294967297",
                    "9223372036854775808", "18446744073709551616", "18446744073709551617", "100000000000000000000000000000000001"}) {
                fault(form[0] + "^" + huge + form[1], 2);
            }
        }
        lines("tale years 00000000000001 law 00 odds 010;", 1);
        fault("tale years ^000 law 0 odds 0;", 2);
        fault(HEAD + "fold ^0 1;", 2);
        fault(HEAD + "knife ^0 at 0;", 2);
        fault(HEAD + ONE + "fold 0 ^1;" + ONE, 2);
        fault(HEAD + ONE + "fold ^1 0;" + ONE, 2);
        fault(HEAD + ONE + "knife ^1 at 0;" + ONE, 2);
        lines(HEAD + ONE + "knife 0 at 0;" + ONE + "fold 1 0;knife 1 at 0;" + ONE + "fold 2 0;", 8);
        fault(HEAD + ONE + "fold 0 ^0;", 2);
        fault(HEAD + SIX + "fold 5 ^5;", 2);
        fault(HEAD + SIX + "fold 5 ^05;", 2);
        fault(HEAD + SIX + "fold 1 2;fold 1 ^2;", 2);
        fault(HEAD + SIX + "fold 1 2;fold 2 ^1;", 2);
        fault(HEAD + SIX + TEN.substring(0, 81) + "fold 5 ^1;", 2);
        lines(HEAD + SIX + "fold 1 2;fold 2 3;fold 3 1;", 10);
        fault(HEAD + SIX + "fold ^6 6;", 2);
    }

    private static void tooMany() {
        lines(HEAD + SIX, 7);
        fault(HEAD + SIX + "^" + ONE, 3);
        fault(HEAD + SIX + "^part", 3);
        fault(HEAD + SIX + TEN + EIGHT + " \n^part charm 1 tires 1;", 3);
        fault(HEAD + ONE + ONE + "fold 0 1;" + ONE + ONE + "knife 3 at 0;" + ONE + ONE + "^part", 3);
        lines(HEAD + SIX + TEN, 17);
        fault(HEAD + SIX + TEN + "^fold 2 4;", 3);
        fault(HEAD + SIX + TEN + "^fold", 3);
        fault(HEAD + SIX + TEN + "^fold 0 1;", 3);
        lines(HEAD + ONE + "knife 0 at 0;knife 0 at 0;", 4);
        lines(HEAD + SIX + EIGHT, 15);
        fault(HEAD + SIX + EIGHT + "^knife 0 at 0;", 3);
        fault(HEAD + SIX + EIGHT + "^knife 9 at 99;", 3);
        fault(HEAD + SIX + EIGHT + "^knife", 3);
    }

    private static void firstByItsPlace() {
        fault("tale years ^13 law 4 odds 11;", 2);
        fault("tale years ^0 ?", 2);
        fault("tale ^? years 0", 1);
        fault(HEAD + SIX + "^part charm 61 ?", 3);
        fault(HEAD + SIX + "fold 0 ^0;part charm 1 tires 1;", 2);
        fault(HEAD + SIX + "^?part", 1);
        fault(HEAD + SIX.substring(0, 21 * 5) + "part charm ^61 tires 1;part", 2);
        // a 7th part where no word may stand is a TOKEN that can't stand there: of one place the least
        fault(HEAD + SIX + "fold 0 1 ^part charm 1 tires 1;", 1);
        fault(HEAD + SIX.substring(0, SIX.length() - 1) + " ^part charm 1 tires 1;", 1);
        fault(HEAD + SIX + TEN.substring(0, TEN.length() - 1) + " ^fold 2 4;", 1);
        fault(HEAD + SIX + EIGHT.substring(0, EIGHT.length() - 1) + " ^knife 0 at 0;", 1);
        // a number where none may stand, whatever it is
        fault(HEAD + "part ^99 charm 1 tires 1;", 1);
        fault(HEAD + "^99;", 1);
        fault(HEAD + ONE + ONE + "fold 0 1 ^99;", 1);
        fault("tale years 1 law 0 odds 0 ^11;", 1);
    }

    private static void promises6To8And35And37() {
        UncutTale none = Due.told(HEAD);
        DUE.is("35: no PARTS, no sets", none.pieces(), 0);
        UncutTale alone = Due.told(HEAD + "part charm 60 tires 9 stiff 60;");
        DUE.is("6: the most charm", alone.part(0, 0), 60);
        DUE.is("6: the most tires", alone.part(0, 1), 9);
        DUE.is("6: the most stiff", alone.part(0, 2), 60);
        DUE.is("7: joined with none", alone.near(0), 0);
        DUE.is("8: it is the same", alone.far(0, 0), 0);
        DUE.is("35: one alone is one, too", alone.pieces(), 1);
        DUE.is("37: no KNIVES", alone.knives(0), 0);
        UncutTale least = Due.told(HEAD + "part charm 0 tires 0;part charm 0 tires 0 stiff 1;");
        for (int what = 0; what < 3; what++) {
            DUE.is("6: the least, not told", least.part(0, what), 0);
        }
        DUE.is("6: the least told", least.part(1, 2), 1);
        DUE.is("8: there is no way", least.far(0, 1), -1);
        UncutTale all = Due.told(HEAD + SIX + "fold 5 0;fold 5 1;fold 5 2;fold 5 3;fold 5 4;");
        DUE.is("7: with all others", all.near(5), 31);
        DUE.is("7: with the last", all.near(0), 32);
        DUE.is("8: by two", all.far(0, 4), 2);
        DUE.is("35: all in one", all.pieces(), 1);
        UncutTale row = Due.told(HEAD + SIX + "fold 3 0;fold 0 5;fold 5 1;fold 1 4;fold 4 2;");
        DUE.is("8: by five, the farthest", row.far(3, 2), 5);
        DUE.is("8: by five, the other way", row.far(2, 3), 5);
        DUE.is("8: it is the same", row.far(5, 5), 0);
        DUE.is("35: by a long way", row.pieces(), 1);
        DUE.is("35: by the longest way", Due.told(HEAD + SIX + "fold 0 5;fold 5 1;fold 1 4;fold 4 2;fold 2 3;").pieces(), 1);
        DUE.is("35: each alone", Due.told(HEAD + SIX).pieces(), 6);
        DUE.is("35: one fold less", Due.told(HEAD + SIX + "fold 4 5;").pieces(), 5);
        UncutTale ring = Due.told(HEAD + SIX + "fold 0 1;fold 1 2;fold 2 3;fold 3 4;fold 4 5;fold 5 0;");
        DUE.is("8: at least: round the other way", ring.far(0, 4), 2);
        DUE.is("8: either way", ring.far(0, 3), 3);
        UncutTale three = Due.told(HEAD + SIX + "fold 4 1;fold 5 2;fold 3 0;");
        DUE.is("35: three pairs", three.pieces(), 3);
        DUE.is("8: there is no way", three.far(0, 5), -1);
        UncutTale knives = Due.told("tale years 1 law 0 odds 0;" + SIX + EIGHT);
        DUE.is("37: of YEARS there are not, too, to the 8th", knives.knives(0), 1 | 64 | 128);
        DUE.is("37: of a YEAR there is not", knives.knives(5), 32);
        knives.knife(5, 0);
        DUE.is("37: told alone", knives.knives(5), 32);
        UncutTale cut = Due.told("tale years 1 law 0 odds 0;" + ONE + ONE + "fold 0 1;knife 0 at 0;");
        DUE.is("7: cut or not", cut.near(0), 2);
    }

    private static void promise70Count() {
        UncutTale x = Due.told("tale years 12 law 3 odds 10;" + SIX + TEN + EIGHT);
        int[] most = {12, 3, 10, 6, 10, 8, 20, 25, 700, 4};
        for (int i = 0; i < 20; i++) {
            x.air(0, 0);
        }
        for (int i = 0; i < 35; i++) {
            x.feed(0, 0, 0, 0, 0);
        }
        for (int slot = 0; slot < 4; slot++) {
            DUE.is("70: SLOTS that have a row", x.count(9), slot);
            x.row(slot, slot, 0);
        }
        for (int what = 0; what < most.length; what++) {
            DUE.is("70: the most, count " + what, x.count(what), most[what]);
        }
        for (int what : new int[] {-1, 10, 11, 256, Integer.MIN_VALUE, Integer.MAX_VALUE}) {
            DUE.is("70: others", x.count(what), -1);
        }
        x.row(0, 0, 60);
        DUE.is("70: a row in place of another", x.count(9), 4);
        DUE.is("70: a refused act is none", x.knife(0, 0), -5);
        DUE.is("70: a refused act is none", x.count(6), 20);
    }

    private static void promise73Row() {
        UncutTale x = Due.told(HEAD + ONE);
        int[][] none = {{4, 0, 0}, {-1, 0, 0}, {0, 4, 0}, {0, -1, 0}, {0, 0, 61}, {3, 3, Integer.MAX_VALUE}, {4, 0, -1}, {-1, 3, -1},
            {0, 4, -1}, {0, -1, Integer.MIN_VALUE}, {Integer.MIN_VALUE, 0, 0}, {Integer.MAX_VALUE, 0, 0}, {0, Integer.MAX_VALUE, 0}};
        for (int[] n : none) {
            DUE.is("73: no such SLOT or WIDTH, or n above 60", x.row(n[0], n[1], n[2]), -2);
        }
        DUE.is("73: n is below 0", x.row(0, 0, -1), -3);
        DUE.is("73: n is below 0", x.row(3, 3, Integer.MIN_VALUE), -3);
        DUE.is("73: the SLOT stays, and has nothing", x.count(9), 0);
        DUE.is("73: the SLOT stays, and has nothing", x.stiffs(0, 0), -6);
        for (int slot = 0; slot < 4; slot++) {
            for (int width = 0; width < 4; width++) {
                for (int n = 0; n <= 60; n += 60) {
                    DUE.is("73: 0 and 60 numbers of each WIDTH", x.row(slot, width, n), 0);
                    DUE.is("73: the last one", x.write(slot, n - 1, 0), n == 0 ? -7 : 0);
                    DUE.is("73: one beyond", x.write(slot, n, 0), -7);
                }
            }
        }
        see(x, 1, 2, 0, 1, 99);
        // by law 2 all from 49 (2 * 49 + 1) to 60 are 99 STIFF in YEAR 1
        DUE.is("73: a row", x.stiffs(1, 0), 12);
        DUE.is("73: n is below 0", x.row(1, 0, -1), -3);
        DUE.is("73: the SLOT stays", x.stiffs(1, 0), 12);
        DUE.is("73: n is above 60", x.row(1, 0, 61), -2);
        DUE.is("73: the SLOT stays", x.stiffs(1, 0), 12);
        DUE.is("73: it is of its WIDTH still", x.row(2, 2, 3), 0);
        DUE.is("73: it is of its WIDTH still", x.paste(1, 0, 2, 0, 3), 0);
        DUE.is("73: in place of another one", x.row(1, 2, 3), 0);
        DUE.is("73: all 0", x.low(1, 0), 0);
        DUE.is("73: all 0", x.high(1, 0), 0);
        DUE.is("73: another SLOT stays", x.stiffs(2, 0), 12);
        see(x, 3, 0, 0, 0, 7);
        x.row(3, 0, 0);
        x.row(3, 0, 3);
        DUE.is("73: nothing of an older row is left", x.low(3, 0), 0);
        x.row(3, 0, 2);
        DUE.is("73: fewer numbers", x.write(3, 2, 0), -7);
    }

    private static void promise74Write() {
        UncutTale x = Due.told(HEAD + ONE);
        for (int slot : new int[] {-1, 4, Integer.MIN_VALUE, Integer.MAX_VALUE}) {
            DUE.is("74: no such SLOT", x.write(slot, 0, 0), -2);
            DUE.is("74: no such SLOT, no such number", x.write(slot, -1, 0), -2);
        }
        for (int slot = 0; slot < 4; slot++) {
            DUE.is("74: it has nothing", x.write(slot, 0, 0), -6);
            DUE.is("74: it has nothing, ahead of no such number", x.write(slot, -1, 0), -6);
            DUE.is("74: it has nothing, ahead of no such number", x.write(slot, 60, 0), -6);
        }
        x.row(0, 0, 3);
        for (int i : new int[] {-1, 3, 4, 59, 60, 61, Integer.MIN_VALUE, Integer.MAX_VALUE}) {
            DUE.is("74: no such number", x.write(0, i, 1), -7);
        }
        DUE.is("74: nothing was written", x.low(0, 0), 0);
        // numbers of a WIDTH of 1, 2, 4 bytes wrap around; of 8 bytes none can
        long[] round = {256L, 65536L, 4294967296L, 0L};
        for (int width = 0; width < 4; width++) {
            see(x, 0, width, 0, 0, 44 + round[width]);
            DUE.is("74: cut to its WIDTH", x.low(0, 0), 44);
            see(x, 0, width, round[width], -round[width], 44 - 3 * round[width]);
            DUE.is("74: cut to its WIDTH", x.low(0, 0), 44);
            see(x, 0, width, 0, 0, round[width] - 1);
            DUE.is("74: one less than a whole round is -1", x.low(0, 0), -2);
            see(x, 0, width, 0, 0, Long.MIN_VALUE);
            DUE.is("74: the least of 8 bytes", x.low(0, 0), width == 3 ? -2 : 0);
            see(x, 0, width, 0, 0, Long.MAX_VALUE);
            DUE.is("74: the greatest of 8 bytes", x.low(0, 0), -2);
        }
        for (int width = 1; width < 4; width++) {
            see(x, 0, width, 0, 0, 44 + 256L);
            DUE.is("74: not cut to one byte", x.low(0, 0), -2);
            see(x, 0, width, 0, 0, 44 + 65536L);
            DUE.is("74: not cut to two bytes", x.low(0, 0), width == 1 ? 44 : -2);
            see(x, 0, width, 0, 0, 44 + 4294967296L);
            DUE.is("74: not cut to four bytes", x.low(0, 0), width < 3 ? 44 : -2);
        }
        see(x, 0, 0, 0, 0, 128);
        DUE.is("74: 128 of one byte", x.low(0, 0), -2);
    }

    private static void promise75Paste() {
        UncutTale x = Due.told(HEAD + ONE);
        see(x, 0, 1, 0, 0, 44, 0, 1, 89);
        x.row(1, 1, 3);
        x.row(2, 2, 3);
        for (int slot : new int[] {-1, 4, Integer.MIN_VALUE, Integer.MAX_VALUE}) {
            DUE.is("75: no such SLOT", x.paste(slot, 0, 0, 0, 0), -2);
            DUE.is("75: no such SLOT to put to", x.paste(0, 0, slot, 0, 0), -2);
            DUE.is("75: no such SLOT, ahead of one that has nothing", x.paste(3, -1, slot, 0, 0), -2);
            DUE.is("75: no such SLOT, ahead of one that has nothing", x.paste(slot, -1, 3, 0, 0), -2);
        }
        DUE.is("75: one has nothing", x.paste(3, 0, 0, 0, 0), -6);
        DUE.is("75: one has nothing", x.paste(0, 0, 3, 0, 0), -6);
        DUE.is("75: both have nothing", x.paste(3, 0, 3, 0, 0), -6);
        DUE.is("75: one has nothing, ahead of -7", x.paste(0, -1, 3, 0, -1), -6);
        DUE.is("75: not of one WIDTH", x.paste(0, 0, 2, 0, 0), -8);
        DUE.is("75: not of one WIDTH", x.paste(2, 0, 0, 0, 1), -8);
        DUE.is("75: not of one WIDTH, ahead of -7", x.paste(0, -1, 2, 9, -1), -8);
        int[][] beyond = {{0, 0, 0, 7}, {0, 0, 0, 4}, {4, 0, 0, 3}, {6, 0, 0, 1}, {7, 0, 0, 1}, {0, 0, 3, 1}, {0, 0, 1, 3}, {-1, 0, 0, 1},
            {-1, 0, 0, 0}, {0, 0, -1, 1}, {0, 0, -1, 0}, {0, 0, 0, -1}, {3, 0, 3, -1}, {Integer.MAX_VALUE, 0, 0, 1},
            {1, 0, 0, Integer.MAX_VALUE}, {Integer.MAX_VALUE, 0, Integer.MAX_VALUE, Integer.MAX_VALUE}, {0, 0, Integer.MAX_VALUE, 1},
            {0, 0, 1, Integer.MAX_VALUE}, {Integer.MIN_VALUE, 0, 0, 1}, {0, 0, Integer.MIN_VALUE, 1}, {0, 0, 0, Integer.MIN_VALUE},
            {Integer.MIN_VALUE, 0, 0, Integer.MIN_VALUE}};
        for (int[] b : beyond) {
            DUE.is("75: beyond their rows, or below 0", x.paste(0, b[0], 1, b[2], b[3]), -7);
        }
        DUE.is("75: nothing happens", x.low(1, 0), 0);
        DUE.is("75: none, at the rows' ends", x.paste(0, 6, 1, 3, 0), 0);
        DUE.is("75: none", x.paste(0, 0, 1, 0, 0), 0);
        DUE.is("75: nothing was put", x.low(1, 0), 0);
        DUE.is("75: up to the rows' ends", x.paste(0, 3, 1, 0, 3), 0);
        DUE.is("75: 89 in YEAR 1 is 44 in YEAR 0", x.low(1, 0), 44);
        DUE.is("75: where they came from stays", x.low(0, 0), 44);
        DUE.is("75: one alone", x.paste(1, 2, 1, 1, 1), 0);
        DUE.is("75: a YEAR 89 there is not", x.low(1, 0), -2);
        DUE.is("75: a whole row to itself", x.paste(0, 0, 0, 0, 6), 0);
        DUE.is("75: stays as it was", x.stiffs(0, 0), 1);
        overlap(3);
        overlap(-3);
        overlap(1);
        overlap(-1);
    }

    /** Sixty numbers, moved within their row by some places: each comes over as it was. */
    private static void overlap(int by) {
        UncutTale x = Due.told(HEAD + ONE + ONE + "knife 0 at 0;");
        int from = Math.max(0, -by);
        int to = Math.max(0, by);
        int n = 60 - Math.abs(by);
        x.row(0, 0, 60);
        // every third number, counted from where the row will start, is a PART, a YEAR, how STIFF: 1, 1, 1 (2 * 0 + 1)
        for (int i = 0; i < 60; i++) {
            x.write(0, i, i == from ? 1 : i == from + 1 ? 1 : i == from + 2 ? 1 : 0);
        }
        DUE.is("75: to its own", x.paste(0, from, 0, to, n), 0);
        x.row(1, 0, 3);
        x.paste(0, to, 1, 0, 3);
        DUE.is("75: as they were, by " + by, x.low(1, 1), 0);
        DUE.is("75: as they were, by " + by, x.high(1, 1), 0);
        for (int i = 3; i < 6; i++) {
            x.paste(0, to + i, 1, i - 3, 1);
        }
        DUE.is("75: each but once, by " + by, x.low(1, 0), 0);
        DUE.is("75: each but once, by " + by, x.laws(1), 15);
    }

    private static void see(UncutTale x, int slot, int width, long... numbers) {
        x.row(slot, width, numbers.length);
        for (int i = 0; i < numbers.length; i++) {
            x.write(slot, i, numbers[i]);
        }
    }

    private static void lines(String text, int lines) {
        UncutTale x = new UncutTale();
        Due.put(x, text);
        DUE.is("tale of " + text, x.tale(), lines);
        DUE.is("FAULT of " + text, x.fault(0), 0);
        DUE.is("place of " + text, x.fault(1), -1);
        DUE.is("LINES of " + text, x.count(7), lines);
        DUE.is("bytes of " + text, x.count(8), 0);
    }

    private static void fault(String marked, int what) {
        int place = marked.indexOf('^');
        faultAt(marked.substring(0, place) + marked.substring(place + 1), what, place);
    }

    private static void faultAt(String text, int what, int place) {
        UncutTale x = new UncutTale();
        Due.put(x, text);
        DUE.is("tale of " + text, x.tale(), -4);
        DUE.is("FAULT of " + text, x.fault(0), what);
        DUE.is("place of " + text, x.fault(1), place);
        DUE.is("LINES of " + text, x.count(7), 0);
        DUE.is("bytes of " + text, x.count(8), text.length());
    }
}
