/** Terms 1 and promises 2 to 5: the tape, texts, and what is wrong in them. */
final class EdgesOfTexts extends Edges {
    private static final String POND = "pond 1 1 1;";
    private static final String THREE = POND.repeat(3);

    EdgesOfTexts(Sentences sentences) {
        super(sentences);
    }

    @Override
    void test() {
        howManyPonds();
        waterOfPonds();
        whatAPondHas();
        whereItGoes();
        gatesAndSigns();
        rains();
        days();
        works();
        lengthOfTheTape();
        blanksAndSigns();
        numbersAndWords();
        hillLines();
        pondsOfLines();
        planLines();
        laterOnes();
        firstFault();
        secondFaults();
        thirdFaults();
        fourthFault();
        howManyTexts();
        feed();
        end();
        text();
        refusedText();
        fault();
    }

    // ---- Terms 1: what a HILL has

    private void howManyPonds() {
        sentence("Terms 1", "A HILL has PONDS, at most 9, from 0 on, from above:");
        due("none", taken(0, "").hill(0, 0), 0);
        PondStair nine = taken(0, "pond 1 0 0;" + "pond 2 0 0;".repeat(7) + "pond 3 0 0;");
        due("nine", nine.hill(0, 0), 9);
        due("the first is 0", nine.pond(0, NONE, 0, 0), 1);
        due("the last is 8", nine.pond(0, NONE, 8, 0), 3);
        due("there is no 9", nine.pond(0, NONE, 9, 0), REFUSED);
        fails(0, "pond 1 0 0;".repeat(10), 3, 99);
        PondStair above = taken(0, "pond 9 7 0;pond 9 0 0;pond 9 0 0;down 0 1;down 1 2;");
        due("from above, in one STORM", above.storm(0, NONE, 0, 3, 12), 7);
    }

    private void waterOfPonds() {
        sentence("Terms 1", "HOLDS, 0 .. 24, LEVEL, 0 .. HOLDS, TAKE, 0 .. 9;");
        range("pond ", " 0 0;", 0, 24, 0);
        for (int holds : new int[] {0, 1, 7, 23, 24}) {
            range("pond " + holds + " ", " 0;", 0, holds, 1);
        }
        range("pond 1 1 ", ";", 0, 9, 2);
    }

    /** The NUMBER between two pieces of a HILL's text: told at both ends, a FAULT next to them. */
    private void range(String before, String behind, int least, int most, int what) {
        due(before + least, taken(0, before + least + behind).pond(0, NONE, 0, what), least);
        due(before + most, taken(0, before + most + behind).pond(0, NONE, 0, what), most);
        fails(0, before + (most + 1) + behind, 2, before.length());
        fails(0, before + 999 + behind, 2, before.length());
    }

    private int atFirst(int what) {
        return taken(0, POND).pond(0, NONE, 0, what);
    }

    private void whatAPondHas() {
        sentence("Terms 1", "BEARS, 0 .. 24 (0 at first);");
        due("at first", atFirst(3), 0);
        range(POND + "bears 0 ", ";", 0, 24, 3);
        sentence("Terms 1", "a CHANCE, 0 .. 10 (of 10; 0 at first), that its bank goes by itself;");
        due("at first", atFirst(4), 0);
        range(POND + "goes 0 ", ";", 0, 10, 4);
        due("0 of 10", taken(0, POND + "goes 0 0;").likely(0, NONE, 0), 0);
        due("1 of 10", taken(0, POND + "goes 0 1;").likely(0, NONE, 0), 100);
        due("9 of 10", taken(0, POND + "goes 0 9;").likely(0, NONE, 0), 900);
        due("10 of 10", taken(0, POND + "goes 0 10;").likely(0, NONE, 0), 1000);
        sentence("Terms 1", "HARM, 0 .. 999 (0);");
        due("at first", atFirst(5), 0);
        due("0", taken(0, POND + "harm 0 0;").pond(0, NONE, 0, 5), 0);
        due("999", taken(0, POND + "harm 0 999;").pond(0, NONE, 0, 5), 999);
        // 1000 is no NUMBER at all.
        fails(0, POND + "harm 0 1000;", 1, 18);
        sentence("Terms 1", "an OWNER, 0 .. 3 (0);");
        due("at first", atFirst(6), 0);
        range(POND + "owner 0 ", ";", 0, 3, 6);
        sentence("Terms 1", "RICE, 0 .. 99 (0);");
        due("at first", atFirst(7), 0);
        range(POND + "rice 0 ", ";", 0, 99, 7);
        sentence("Terms 1", "WAY, 0 .. 99 (0);");
        due("at first", atFirst(11), 0);
        range(POND + "way 0 ", ";", 0, 99, 11);
    }

    private void whereItGoes() {
        sentence("Terms 1", "DOWN: a POND with a greater number (none at first: the brook);");
        due("at first", atFirst(8), NONE);
        due("the brook", taken(0, "pond 5 5 0;").storm(0, NONE, 0, 1, 40), 5);
        due("the next greater", taken(0, THREE + "down 1 2;").pond(0, NONE, 1, 8), 2);
        due("a much greater", taken(0, POND.repeat(9) + "down 0 8;").pond(0, NONE, 0, 8), 8);
        fails(0, THREE + "down 1 1;", 2, 40);
        fails(0, THREE + "down 1 0;", 2, 40);
        fails(0, THREE + "down 1 3;", 2, 40);
        fails(0, POND.repeat(9) + "down 8 8;", 2, 106);
        fails(0, POND.repeat(9) + "down 8 9;", 2, 106);
        sentence("Terms 1", "perhaps ASIDE: another such POND, and n of 10, 0 .. 10;");
        due("at first", atFirst(9), NONE);
        due("n at first", atFirst(10), 0);
        due("the next greater", taken(0, THREE + "aside 1 2 3;").pond(0, NONE, 1, 9), 2);
        due("a much greater", taken(0, POND.repeat(9) + "aside 0 8 3;").pond(0, NONE, 0, 9), 8);
        fails(0, THREE + "aside 1 1 3;", 2, 41);
        fails(0, THREE + "aside 1 0 3;", 2, 41);
        fails(0, THREE + "aside 1 3 3;", 2, 41);
        range(THREE + "aside 0 1 ", ";", 0, 10, 10);
    }

    private void gatesAndSigns() {
        sentence("Terms 1", "perhaps a GATE, 0 .. 99;");
        due("at first", atFirst(12), NONE);
        range(POND + "gate 0 ", ";", 0, 99, 12);
        sentence("Terms 1", "SIGN: t and f, 0 .. 10 (of 10; 0 at first).");
        due("t at first", atFirst(13), 0);
        due("f at first", atFirst(14), 0);
        range(POND + "sign 0 ", " 5;", 0, 10, 13);
        range(POND + "sign 0 5 ", ";", 0, 10, 14);
    }

    private void rains() {
        sentence("Terms 1", "RAINS, at most 4, from 0 on: STEPS, 0 .. 9, a CHANCE, 0 .. 100 (of 100), 100 together"
            + " (without any: one of 0 STEPS, 100).");
        PondStair four = taken(0, "rain 1 10;rain 2 20;rain 3 30;rain 4 40;");
        due("four", four.hill(0, 1), 4);
        for (int k = 0; k < 4; k++) {
            due("STEPS of " + k, four.hill(0, 10 + k), 1 + k);
            due("CHANCE of " + k, four.hill(0, 20 + k), 10 + 10 * k);
        }
        due("there is no RAIN 4", four.hill(0, 14), NONE);
        fails(0, "rain 1 20;".repeat(5), 3, 40);
        due("0 STEPS", taken(0, "rain 0 100;").hill(0, 10), 0);
        due("9 STEPS", taken(0, "rain 9 100;").hill(0, 10), 9);
        fails(0, "rain 10 100;", 2, 5);
        due("a CHANCE of 0", taken(0, "rain 1 0;rain 2 100;").hill(0, 20), 0);
        due("a CHANCE of 100", taken(0, "rain 1 0;rain 2 100;").hill(0, 21), 100);
        fails(0, "rain 1 101;", 2, 7);
        fails(0, "rain 1 99;", 4, 10);
        fails(0, "rain 1 100;rain 1 1;", 4, 20);
        PondStair dry = taken(0, POND);
        due("one without any", dry.hill(0, 1), 1);
        due("its STEPS", dry.hill(0, 10), 0);
        due("its CHANCE", dry.hill(0, 20), 100);
        due("no second one", dry.hill(0, 11), NONE);
    }

    private void days() {
        sentence("Terms 1", "MEND, WIDE, ROUND: days, 0 .. 99 (1 at first).");
        String[] words = {"mend ", "wide ", "round "};
        for (int k = 0; k < words.length; k++) {
            due(words[k] + "at first", taken(0, "").hill(0, 2 + k), 1);
            for (int days : new int[] {0, 99}) {
                PondStair x = taken(0, words[k] + days + ";");
                for (int what = 2; what < 5; what++) {
                    due(words[k] + days + ", what " + what, x.hill(0, what), what == 2 + k ? days : 1);
                }
            }
            fails(0, words[k] + "100;", 2, words[k].length());
        }
    }

    private void works() {
        sentence("Terms 1", "A PLAN has WORKS, at most 12, from 0 on.");
        due("none", taken(1, "").work(0, 0, 0), REFUSED);
        PondStair twelve = taken(1, "out 1;" + "low 2 3;".repeat(10) + "out 4;");
        due("the first is 0", twelve.work(0, 0, 1), 1);
        due("the last is 11", twelve.work(0, 11, 1), 4);
        due("there is no 12", twelve.work(0, 12, 1), REFUSED);
        fails(1, "out 1;" + "low 2 3;".repeat(11) + "out 4;", 3, 94);
    }

    // ---- Terms 1: the tape and its TOKENS

    private void lengthOfTheTape() {
        sentence("Terms 1", "THE TAPE has at most 600 bytes.");
        String blanks = " ".repeat(589);
        due("a text of 600 bytes", taken(0, blanks + "pond 7 1 1;").pond(0, NONE, 0, 0), 7);
        fails(0, blanks + "pond 7 1 1 ", 1, 600);
        fails(0, blanks + "  pond 7 1", 1, 599);
        fails(0, " ".repeat(599) + "x", 1, 599);
        PondStair x = new PondStair();
        for (int k = 0; k < 30; k++) {
            due("feed " + k, x.feed(0, 0, 0, 0, 0), 20 * k + 20);
        }
        due("600", x.end(600), 600);
        due("a 601st byte", x.end(601), NONE);
    }

    private void blanksAndSigns() {
        sentence("Terms 1", "TOKENS, as long as they go, blanks (10, 32) between: words, rows of letters a .. z;"
            + " NUMBERS, 1 to 3 digits; ; one byte.");
        taken(0, "pond\n1 1 1;");
        taken(0, "\n \npond \n1  1\n\n1 ; \n");
        taken(0, "pond1 1 1;");
        for (int sign = 0; sign < 256; sign++) {
            if (sign != 10 && sign != 32) {
                char between = (char) sign;
                boolean letter = sign >= 'a' && sign <= 'z';
                boolean digit = sign >= '0' && sign <= '9';
                // A letter makes a longer word, a digit a longer NUMBER (the last 1 is too many then).
                fails(0, "pond" + between + "1 1 1 1;", 1, letter ? 0 : digit ? 11 : 4);
                fails(0, between + ";", 1, 0);
                fails(0, POND + "  " + between, 1, 13);
            }
        }
    }

    private void numbersAndWords() {
        sentence("Terms 1", "NUMBERS, 1 to 3 digits; ; one byte.");
        due("1 digit", taken(0, "mend 7;").hill(0, 2), 7);
        due("2 digits", taken(0, "mend 07;").hill(0, 2), 7);
        due("3 digits", taken(0, "mend 007;").hill(0, 2), 7);
        due("all digits", taken(0, POND + "harm 0 012;").pond(0, NONE, 0, 5), 12);
        due("all digits", taken(0, POND + "harm 0 345;").pond(0, NONE, 0, 5), 345);
        due("all digits", taken(0, POND + "harm 0 678;").pond(0, NONE, 0, 5), 678);
        due("all digits", taken(0, POND + "harm 0 9;").pond(0, NONE, 0, 5), 9);
        fails(0, "mend 0007;", 1, 5);
        fails(0, "mend 4294967297;", 1, 5);
        fails(0, "mend;", 1, 4);
        fails(0, "mend 7;;", 1, 7);
        fails(0, ";", 1, 0);
        fails(0, "mend 7 7;", 1, 7);
        fails(0, "men d 7;", 1, 0);
        fails(0, "mendmend 7;", 1, 0);
        fails(0, "Mend 7;", 1, 0);
        fails(0, "menD 7;", 1, 0);
    }

    // ---- Terms 1: lines

    private static final String[] HILL_LINES = {
        "pond 5 4 3", "down 0 1", "aside 0 1 5", "bears 0 5", "goes 0 5", "harm 0 5", "owner 0 3", "rice 0 5", "way 0 5",
        "gate 0 5", "sign 0 5 5", "rain 5 100", "mend 5", "wide 5", "round 5",
    };
    private static final String[] PLAN_LINES = {"mend 5 5", "low 5 5", "widen 5 5", "round 5 6", "out 5"};

    private void hillLines() {
        sentence("Terms 1", "A HILL's text: {('pond' NUMBER NUMBER NUMBER | 'down' NUMBER NUMBER | 'aside' NUMBER NUMBER"
            + " NUMBER | 'bears' NUMBER NUMBER | 'goes' NUMBER NUMBER | 'harm' NUMBER NUMBER | 'owner' NUMBER NUMBER | 'rice'"
            + " NUMBER NUMBER | 'way' NUMBER NUMBER | 'gate' NUMBER NUMBER | 'sign' NUMBER NUMBER NUMBER | 'rain' NUMBER"
            + " NUMBER | 'mend' NUMBER | 'wide' NUMBER | 'round' NUMBER) ';'}");
        for (String line : HILL_LINES) {
            grammar(0, POND + POND, line);
        }
        for (String other : new String[] {"low 0 1;", "widen 0 1;", "out 0;", "goes0 1;x", "ponds 1 1 1;", "pon 1 1 1;"}) {
            fails(0, other, 1, other.endsWith("x") ? 8 : 0);
        }
        taken(0, "");
        taken(0, " ");
    }

    /** A line as it should be, with a NUMBER less, one more, without its end, and of its word alone. */
    private void grammar(int sort, String before, String line) {
        String text = before + line;
        taken(sort, text + ";");
        int last = text.lastIndexOf(' ');
        fails(sort, text.substring(0, last) + ";", 1, last);
        fails(sort, text + " 1;", 1, text.length() + 1);
        fails(sort, text, 1, text.length());
        fails(sort, text + "  ", 1, text.length() + 2);
        fails(sort, text + " pond 1 1 1;", 1, text.length() + 1);
        String word = before + line.substring(0, line.indexOf(' '));
        fails(sort, word, 1, word.length());
        fails(sort, word + " ;", 1, word.length() + 1);
        fails(sort, word + " a;", 1, word.length() + 1);
        fails(sort, word + "a 0;", 1, before.length());
        fails(sort, word.substring(0, word.length() - 1) + " 0;", 1, before.length());
        for (int k = before.length(); k < word.length(); k++) {
            StringBuilder other = new StringBuilder(text).append(';');
            other.setCharAt(k, 'x');
            fails(sort, other.toString(), 1, before.length());
        }
    }

    private void pondsOfLines() {
        sentence("Terms 1", "(HOLDS, LEVEL, TAKE; from down to sign first a POND that a line ahead told; down, aside: then"
            + " one that is told and has a greater number; goes: CHANCE; rain: STEPS, CHANCE).");
        PondStair x = taken(0, "pond 5 4 3;goes 0 2;rain 7 100;");
        due("HOLDS", x.pond(0, NONE, 0, 0), 5);
        due("LEVEL", x.pond(0, NONE, 0, 1), 4);
        due("TAKE", x.pond(0, NONE, 0, 2), 3);
        due("CHANCE", x.pond(0, NONE, 0, 4), 2);
        due("STEPS", x.hill(0, 10), 7);
        due("CHANCE of the RAIN", x.hill(0, 20), 100);
        for (int k = 3; k < 11; k++) {
            String word = HILL_LINES[k].substring(0, HILL_LINES[k].indexOf(' '));
            String rest = HILL_LINES[k].substring(word.length() + 2) + ";";
            int place = word.length() + 1;
            taken(0, POND + word + " 0" + rest);
            taken(0, POND + POND + word + " 1" + rest);
            taken(0, POND.repeat(9) + word + " 8" + rest);
            fails(0, word + " 0" + rest + POND, 2, place);
            fails(0, POND + word + " 1" + rest + POND, 2, 11 + place);
            fails(0, POND.repeat(9) + word + " 9" + rest, 2, 99 + place);
            fails(0, POND.repeat(9) + word + " 999" + rest, 2, 99 + place);
        }
        taken(0, POND + POND + "down 0 1;aside 0 1 1;");
        fails(0, "down 0 1;" + POND + POND, 2, 5);
        fails(0, POND + "down 0 1;" + POND, 2, 18);
        fails(0, POND + POND + "down 2 3;", 2, 27);
        fails(0, POND + POND + "down 1 2;", 2, 29);
        fails(0, "aside 0 1 1;" + POND + POND, 2, 6);
        fails(0, POND + "aside 0 1 1;" + POND, 2, 19);
        fails(0, POND + POND + "aside 2 3 1;", 2, 28);
        fails(0, POND + POND + "aside 1 2 1;", 2, 30);
    }

    private void planLines() {
        sentence("Terms 1", "A PLAN's text: {('mend' NUMBER NUMBER | 'low' NUMBER NUMBER | 'widen' NUMBER NUMBER | 'round'"
            + " NUMBER NUMBER | 'out' NUMBER) ';'}");
        for (String line : PLAN_LINES) {
            grammar(1, "", line);
            grammar(1, "out 0;", line);
        }
        for (String line : HILL_LINES) {
            if (!line.startsWith("mend") && !line.startsWith("round")) {
                fails(1, line + ";", 1, 0);
            }
        }
        taken(1, "");
        taken(1, "\n");
        sentence("Terms 1", "(a POND, 0 .. 8; mend: by how much of 10, 1 .. 10; low, widen: by how much, 1 .. 24; round: to"
            + " which POND, 0 .. 8).");
        workRange("mend ", " 1;", 0, 8, 1);
        workRange("low ", " 1;", 0, 8, 1);
        workRange("widen ", " 1;", 0, 8, 1);
        workRange("round ", " 1;", 0, 8, 1);
        workRange("out ", ";", 0, 8, 1);
        workRange("mend 8 ", ";", 1, 10, 2);
        workRange("low 8 ", ";", 1, 24, 2);
        workRange("widen 8 ", ";", 1, 24, 2);
        // To which POND: whether that can be is the STOP's matter, not the text's.
        workRange("round 8 ", ";", 0, 8, 2);
    }

    private void workRange(String before, String behind, int least, int most, int what) {
        due(before + least, taken(1, before + least + behind).work(0, 0, what), least);
        due(before + most, taken(1, before + most + behind).work(0, 0, what), most);
        fails(1, before + (most + 1) + behind, 2, before.length());
        if (least > 0) {
            fails(1, before + (least - 1) + behind, 2, before.length());
        }
    }

    private void laterOnes() {
        sentence("Terms 1", "Later ones strike, but ponds, rains, WORKS, which are further ones.");
        PondStair x = taken(0, THREE + "down 0 2;down 0 1;aside 0 1 7;aside 0 2 0;bears 0 5;bears 0 0;goes 0 6;goes 0 4;"
            + "harm 0 9;harm 0 8;owner 0 3;owner 0 0;rice 0 7;rice 0 6;way 0 5;way 0 4;gate 0 3;gate 0 2;sign 0 9 8;sign 0 7 0;"
            + "mend 9;mend 8;wide 7;wide 6;round 5;round 0;");
        int[] want = {1, 1, 1, 0, 4, 8, 0, 6, 1, 2, 0, 4, 2, 7, 0};
        for (int what = 0; what < want.length; what++) {
            due("what " + what, x.pond(0, NONE, 0, what), want[what]);
        }
        due("MEND", x.hill(0, 2), 8);
        due("WIDE", x.hill(0, 3), 6);
        due("ROUND", x.hill(0, 4), 0);
        due("PONDS of one kind are three", x.hill(0, 0), 3);
        due("another POND's stays", x.pond(0, NONE, 1, 5), 0);
        PondStair rains = taken(0, "rain 3 50;rain 3 50;");
        due("RAINS of one kind are two", rains.hill(0, 1), 2);
        PondStair works = taken(1, "out 3;out 3;");
        due("WORKS of one kind are two", works.work(0, 1, 1), 3);
    }

    // ---- Terms 1: FAULTS

    private void firstFault() {
        sentence("Terms 1", "FAULTS of both, with places (a token's first byte; the end's): 1 the first byte or token with"
            + " which no text goes on (a longer row of digits is no token).");
        fails(0, "pond 1 1 1;pont 1 1 1;#", 1, 11);
        fails(0, "pond 1 1 1;#pont 1 1 1;", 1, 11);
        fails(0, "pond 1 one 1;", 1, 7);
        fails(0, "pond 1 1 1 ", 1, 11);
        fails(0, "pond 1 1 1", 1, 10);
        fails(0, "pond", 1, 4);
        fails(0, "mend 100 1000;", 1, 9);
        fails(0, "mend 1000;", 1, 5);
        fails(0, "mend 10000;", 1, 5);
        fails(0, "1000 mend 1;", 1, 0);
        fails(0, "mend 1 1000;", 1, 7);
        fails(1, "out 1000;", 1, 4);
        fails(1, "out 0;mend", 1, 10);
        // Ahead of all others, wherever it is.
        fails(0, "pond 25 0 0;x", 1, 12);
        fails(0, POND.repeat(10) + "x", 1, 110);
        fails(0, "rain 1 99;x", 1, 10);
        fails(1, "out 9;x", 1, 6);
        fails(1, "out 0;".repeat(13) + "x", 1, 78);
        fails(0, "pond 25 0 0", 1, 11);
    }

    private void secondFaults() {
        sentence("Terms 1", "If there is none, the first by place, of one place the least: 2 a NUMBER that can't be (a line"
            + " with such a NUMBER tells its pond, rain, WORK all the same);");
        fails(0, "pond 25 26 10;", 2, 5);
        fails(0, "pond 24 25 10;", 2, 8);
        fails(0, "pond 24 24 10;", 2, 11);
        fails(0, "mend 100;pond 25 0 0;", 2, 5);
        fails(0, "pond 25 0 0;harm 0 5;mend 100;", 2, 5);
        fails(0, "pond 25 0 0;" + POND + "down 0 1;", 2, 5);
        fails(0, POND + "sign 1 11 11;", 2, 16);
        fails(0, POND + "sign 0 11 11;", 2, 18);
        fails(0, POND + "aside 0 0 11;", 2, 19);
        fails(0, "rain 10 101;", 2, 5);
        fails(1, "mend 9 0;", 2, 5);
        fails(1, "round 8 9;out 9;", 2, 8);
        // Ahead of one that is too many, if it is ahead in the text.
        fails(0, POND.repeat(8) + "pond 25 0 0;" + POND, 2, 93);
        fails(0, POND.repeat(9) + "mend 100;" + POND, 2, 104);
        fails(0, "rain 10 20;" + "rain 1 20;".repeat(4), 2, 5);
        fails(1, "out 9;" + "out 0;".repeat(12), 2, 4);
    }

    private void thirdFaults() {
        sentence("Terms 1", "3 a 10th pond, a 5th rain, a 13th WORK, at its first token.");
        taken(0, POND.repeat(9) + "rain 1 25;".repeat(4));
        fails(0, POND.repeat(10), 3, 99);
        fails(0, POND.repeat(9) + " \n " + POND, 3, 102);
        fails(0, POND.repeat(9) + "pond 25 0 0;", 3, 99);
        fails(0, POND.repeat(10) + "mend 100;", 3, 99);
        fails(0, POND.repeat(12), 3, 99);
        fails(0, "rain 1 10;".repeat(5), 3, 40);
        fails(0, "rain 1 20;".repeat(4) + "\nrain 10 20;", 3, 41);
        fails(0, "rain 1 25;".repeat(4) + POND.repeat(10) + "rain 1 25;", 3, 139);
        taken(1, "out 0;".repeat(12));
        fails(1, "out 0;".repeat(13), 3, 72);
        fails(1, "out 0;".repeat(12) + " out 9;", 3, 73);
    }

    private void fourthFault() {
        sentence("Terms 1", "If there is none of these, at the end's place: 4 CHANCES of rains (there are some) are not 100"
            + " together.");
        taken(0, "rain 1 100;");
        taken(0, "rain 1 99;rain 2 1;");
        taken(0, "rain 0 0;rain 0 0;rain 0 0;rain 0 100;");
        taken(0, "");
        fails(0, "rain 1 99;", 4, 10);
        fails(0, "rain 1 99;rain 2 2;", 4, 19);
        fails(0, "rain 1 99; \n", 4, 12);
        fails(0, "rain 1 0;", 4, 9);
        fails(0, "rain 1 100;".repeat(4), 4, 44);
        fails(0, "rain 1 99;mend 100;", 2, 15);
        fails(0, "rain 1 10;".repeat(5), 3, 40);
        fails(0, "rain 1 99;" + POND.repeat(10), 3, 109);
    }

    private void howManyTexts() {
        sentence("Terms 1", "HILLS, at most 2, PLANS, at most 3, from 0 on.");
        PondStair x = new PondStair();
        for (int k = 0; k < 4; k++) {
            due("HILL " + k, Tape.hill(x, "pond " + k + " 0 0;"), k < 2 ? k : REFUSED);
            due("PLAN " + k, Tape.plan(x, "out " + k + ";"), k < 3 ? k : REFUSED);
        }
        due("HILLS", x.count(0), 2);
        due("PLANS", x.count(1), 3);
        due("the last HILL", x.pond(1, NONE, 0, 0), 1);
        due("the last PLAN", x.work(2, 0, 1), 2);
        due("no HILL 2", x.hill(2, 0), NONE);
        due("no PLAN 3", x.work(3, 0, 0), REFUSED);
    }

    // ---- promises 2 to 5

    private void feed() {
        sentence("Promise 2", "The tape: twenty bytes come behind it, of each number the highest first: how many it has.");
        PondStair x = new PondStair();
        due("the first twenty", x.feed(0x706f6e64, 0x20352033, 0x20313b68, 0x61726d20, 0x3020373b), 20);
        due("twenty more", x.feed(0x676f6573, 0x20302034, 0x3b776179, 0x20302038, 0x3b0a0a0a), 40);
        due("they are a text", x.text(0, NONE), 0);
        int[] want = {5, 3, 1, 0, 4, 7, 0, 0, NONE, NONE, 0, 8};
        for (int what = 0; what < want.length; what++) {
            due("what " + what, x.pond(0, NONE, 0, what), want[what]);
        }
        // Of a number below 0 too the highest byte is the first.
        x.feed(0xff202020, 0x20202020, 0x20202020, 0x20202020, 0x202020ff);
        x.text(0, NONE);
        due("its first byte", x.fault(1), 0);
        x.feed(0x20202020, 0x20202020, 0x20202020, 0x20202020, 0x202020ff);
        x.text(0, NONE);
        due("its last byte", x.fault(1), 19);
        x.feed(0x20202020, 0x20202020, 0x202020ff, 0xff202020, 0x20202020);
        x.text(0, NONE);
        due("its twelfth byte", x.fault(1), 11);
        feedTooMany();
    }

    private void feedTooMany() {
        sentence("Promise 2", "NONE, and nothing comes, if there would be more than 600.");
        for (int length = 575; length <= 600; length++) {
            PondStair x = new PondStair();
            Tape.put(x, " ".repeat(length));
            boolean more = length <= 580;
            due("feed behind " + length, x.feed(0x78787878, 0, 0, 0, 0), more ? length + 20 : NONE);
            due("the tape then", x.end(length + 1), more ? length + 1 : NONE);
            due("a text then", x.text(0, NONE), more ? NONE : 0);
            due("its place then", x.fault(1), more ? length : NONE);
        }
    }

    private void end() {
        sentence("Promise 3", "The tape has its first n bytes alone: n.");
        PondStair x = new PondStair();
        due("of none", x.end(0), 0);
        Tape.put(x, "pond 7 1 1;pond 8 1 1;x");
        due("all", x.end(23), 23);
        due("all but one", x.end(22), 22);
        due("again", x.end(22), 22);
        due("behind it", x.feed(0x6d656e64, 0x20353b20, 0x20202020, 0x20202020, 0x20202020), 42);
        due("less than that", x.end(29), 29);
        due("what was there", x.text(0, NONE), 0);
        due("two PONDS", x.hill(0, 0), 2);
        due("the last line", x.hill(0, 2), 5);
        Tape.put(x, "x");
        due("none of them", x.end(0), 0);
        due("an empty text", x.text(0, 0), 0);
        cutTexts();
        sentence("Promise 3", "NONE if it has not so many, or n is below 0.");
        due("1 of an empty one", new PondStair().end(1), NONE);
        for (int length : new int[] {0, 1, 19, 20, 21, 599, 600}) {
            for (int wrong : new int[] {length + 1, -1, -2, 601, Integer.MIN_VALUE, Integer.MAX_VALUE}) {
                PondStair y = new PondStair();
                Tape.put(y, " ".repeat(length));
                due("end(" + wrong + ") of " + length, y.end(wrong), NONE);
                due("it has as many as before", y.end(length), length);
            }
        }
        PondStair y = new PondStair();
        Tape.put(y, "out 7;");
        y.end(7);
        y.end(-1);
        due("what is refused leaves the tape", y.text(1, NONE), 0);
        due("all of it", y.work(0, 0, 1), 7);
    }

    /** What was behind the end is no part of the text: of no word, no NUMBER, no row of blanks. */
    private void cutTexts() {
        String text = "pond 12 1 1 ;  mend 12;";
        int[] place = {NONE, 1, 2, 3, 4, 5, 6, 7, 8, 9, 10, 11, 12, NONE, NONE, NONE, 15, 15, 15, 19, 20, 21, 22, NONE};
        for (int n = 0; n <= text.length(); n++) {
            PondStair x = new PondStair();
            Tape.put(x, text);
            due("end(" + n + ")", x.end(n), n);
            due("what is left of it", x.text(0, NONE), place[n] == NONE ? 0 : NONE);
            // A word that is cut is another word.
            int want = n > 0 && n < 4 ? 0 : place[n];
            due("its place", x.fault(1), want);
        }
    }

    private void text() {
        sentence("Promise 4", "The tape is taken (and is empty then), as a HILL (sort 0), a PLAN (1), a further one (at NONE),"
            + " or in the place of one: its number.");
        PondStair x = new PondStair();
        Tape.put(x, "mend 5;");
        due("the first HILL", x.text(0, NONE), 0);
        due("the tape is empty", x.end(1), NONE);
        due("a further HILL, of an empty tape", x.text(0, NONE), 1);
        due("it has no PONDS", x.hill(1, 0), 0);
        Tape.put(x, "mend 5 5;");
        due("the first PLAN", x.text(1, NONE), 0);
        due("the tape is empty", x.end(1), NONE);
        due("a further PLAN, of an empty tape", x.text(1, NONE), 1);
        due("the last PLAN", Tape.plan(x, "out 1;"), 2);
        for (int at = 0; at < 2; at++) {
            Tape.put(x, "wide 1" + at + ";");
            due("in the place of HILL " + at, x.text(0, at), at);
            due("it is there", x.hill(at, 3), 10 + at);
            due("what was there is gone", x.hill(at, 2), 1);
            due("the tape is empty", x.end(1), NONE);
        }
        nothingStays();
        for (int at = 0; at < 3; at++) {
            Tape.put(x, "low " + at + " 3;");
            due("in the place of PLAN " + at, x.text(1, at), at);
            due("it is there", x.work(at, 0, 1), at);
            due("what was there is gone", x.work(at, 0, 0), 1);
        }
        due("as many HILLS", x.count(0), 2);
        due("as many PLANS", x.count(1), 3);
        sentence("Promise 4", "NONE: a FAULT.");
        for (int sort = 0; sort < 2; sort++) {
            for (int at = NONE; at < 1; at++) {
                PondStair y = withRoom();
                Tape.put(y, sort == 0 ? "pond 9 8 7;mend 5;mend 100;" : "out 1;out 9;");
                due("sort " + sort + " at " + at, y.text(sort, at), NONE);
                due("its FAULT", y.fault(0), 2);
                due("the tape is empty", y.end(1), NONE);
                same("HILLS and PLANS are as they were", Portrait.ofHillsAndPlans(y), Portrait.ofHillsAndPlans(withRoom()));
            }
        }
    }

    /** A text begins anew: nothing stays of one that was taken ahead of it, or was a FAULT. */
    private void nothingStays() {
        String all = THREE + "down 0 1;aside 0 2 7;bears 0 5;goes 0 6;harm 0 9;owner 0 3;rice 0 7;way 0 5;gate 0 3;sign 0 9 8;"
            + "rain 3 40;rain 4 60;mend 9;wide 8;round 7;";
        int[] bare = {2, 1, 3, 0, 0, 0, 0, 0, NONE, NONE, 0, 0, NONE, 0, 0, 0};
        int[] days = {1, 1, 1, 1, 1};
        for (String before : new String[] {all, all + "x", all + "mend 100;"}) {
            PondStair x = new PondStair();
            Tape.hill(x, before);
            Tape.put(x, "pond 2 1 3;");
            int number = x.text(0, NONE);
            for (int what = 0; what < bare.length; what++) {
                due("of a POND behind another text, " + what, x.pond(number, NONE, 0, what), bare[what]);
            }
            for (int what = 0; what < days.length; what++) {
                due("of a HILL behind another text, " + what, x.hill(number, what), days[what]);
            }
            due("STEPS behind another text", x.hill(number, 10), 0);
            due("no RAIN 1 behind another text", x.hill(number, 11), NONE);
        }
        PondStair x = new PondStair();
        Tape.plan(x, "low 1 2;out 3;out 9;");
        due("a PLAN behind another text", Tape.plan(x, "out 4;"), 0);
        due("its WORK", x.work(0, 0, 0), 4);
        due("its WORK's number", x.work(0, 0, 2), NONE);
        due("no WORK 1", x.work(0, 1, 0), REFUSED);
    }

    private PondStair withRoom() {
        return with("pond 5 4 3;goes 0 5;rain 3 100;mend 9;", "low 0 2;out 0;");
    }

    private void refusedText() {
        sentence("Promise 4", "-2: there is none such, there are as many as may be, or no such sort (no text is read then,"
            + " FAULT 0).");
        PondStair x = new PondStair();
        refused(x, 0, 0);
        refused(x, 1, 0);
        due("a first HILL", Tape.hill(x, ""), 0);
        refused(x, 0, 1);
        refused(x, 1, 0);
        due("a first PLAN", Tape.plan(x, ""), 0);
        refused(x, 1, 1);
        due("a second HILL", Tape.hill(x, ""), 1);
        refused(x, 0, 2);
        refused(x, 0, NONE);
        due("a second PLAN", Tape.plan(x, ""), 1);
        refused(x, 1, 2);
        due("a third PLAN", Tape.plan(x, ""), 2);
        refused(x, 1, 3);
        refused(x, 1, NONE);
        for (int sort = 0; sort < 2; sort++) {
            PondStair y = with("", "");
            refused(y, sort, -2);
            for (int far : FAR) {
                refused(y, sort, far);
            }
        }
        for (int sort : new int[] {-1, 2, 3, Integer.MIN_VALUE, Integer.MAX_VALUE}) {
            PondStair y = with("", "");
            refused(y, sort, NONE);
            refused(y, sort, 0);
            refused(y, sort, 1);
        }
    }

    /** A text that would be a FAULT is not read; one that would be none is not taken; the tape is empty all the same. */
    private void refused(PondStair x, int sort, int at) {
        String call = "sort " + sort + " at " + at;
        int hills = x.count(0);
        int plans = x.count(1);
        for (String text : new String[] {"pond 99;", sort == 1 ? "out 3;" : "pond 3 2 1;"}) {
            x.end(0);
            int[] words = Tape.words(text, 0);
            x.feed(words[0], words[1], words[2], words[3], words[4]);
            due(call, x.text(sort, at), REFUSED);
            due(call + ": FAULT", x.fault(0), 0);
            due(call + ": its place", x.fault(1), NONE);
            due(call + ": the tape is empty", x.end(1), NONE);
        }
        due(call + ": HILLS", x.count(0), hills);
        due(call + ": PLANS", x.count(1), plans);
        due(call + ": PONDS of HILL 0", x.hill(0, 0), hills > 0 ? 0 : NONE);
        due(call + ": WORKS of PLAN 0", x.work(0, 0, 0), REFUSED);
    }

    private void fault() {
        sentence("Promise 5", "Of the latest text(), what 0: the FAULT, 0 without, 1: its place, NONE without.");
        PondStair x = new PondStair();
        due("of none, FAULT", x.fault(0), 0);
        due("of none, place", x.fault(1), NONE);
        String[] texts = {"x", "", " pond 25 0 0;", "rain 1 20;".repeat(5), "rain 1 1;", "pond 1 1 1;"};
        int[][] want = {{1, 0}, {0, NONE}, {2, 6}, {3, 40}, {4, 9}, {0, NONE}};
        for (int k = 0; k < texts.length; k++) {
            Tape.hill(x, texts[k]);
            due("FAULT of " + texts[k], x.fault(0), want[k][0]);
            due("place in " + texts[k], x.fault(1), want[k][1]);
            Tape.put(x, "y");
            due("still the latest one's", x.fault(0), want[k][0]);
        }
        Tape.plan(x, "out 9;");
        due("a PLAN's", x.fault(0), 2);
        due("its place", x.fault(1), 4);
        x.text(2, NONE);
        due("FAULT of none such", x.fault(0), 0);
        due("its place", x.fault(1), NONE);
        sentence("Promise 5", "NONE for another what.");
        Tape.put(x, "pond 99 0 0;");
        x.text(0, 0);
        for (int what : new int[] {-2, -1, 2, 3, Integer.MIN_VALUE, Integer.MAX_VALUE}) {
            due("what " + what, x.fault(what), NONE);
        }
        due("what 0", x.fault(0), 2);
        due("what 1", x.fault(1), 5);
    }
}
