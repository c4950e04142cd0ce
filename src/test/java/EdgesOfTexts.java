/** Promises 9 to 13, and what the Terms say of TOKENS, a STUDY, TOURS and their FAULTS. */
final class EdgesOfTexts extends Edges {
    private static final String BLANKS = " ".repeat(892);
    private static final String TWELVE = twelve();

    static void all() {
        lengthOfStudy();
        tokens();
        parts();
        numbersOfStudy();
        values();
        faultsInOrder();
        toldTwice();
        thirteenthPin();
        studyTaken();
        lengthOfTours();
        steps();
        numbersOfTours();
        manySteps();
        nesting();
        feed();
        study();
        tours();
        fault();
        told();
    }

    private static String twelve() {
        StringBuilder text = new StringBuilder();
        for (int i = 1; i <= 12; i++) {
            text.append("pin ").append(i).append(" by 13;");
        }
        return text.toString();
    }

    private static void fault(String name, String text, int kind, int place) {
        run(name + "{" + text + "} ! 9 " + kind + "@" + place);
    }

    /** A text cut behind each TOKEN, and with each TOKEN put in place of by what can't stand there. */
    private static void spoil(String name, String text) {
        String[] tokens = text.split(" ");
        int at = 0;
        for (int i = 0; i < tokens.length; i++) {
            String ahead = text.substring(0, at);
            String behind = text.substring(at + tokens[i].length());
            if (i > 0 && !tokens[i - 1].equals(";")) {
                fault(name, ahead, 2, at);
                fault(name, ahead.strip(), 2, at - 1);
                fault(name, ahead + " \n ", 2, at + 3);
            }
            boolean isSign = "<>=".contains(tokens[i]);
            fault(name, ahead + (isSign ? ";" : "=") + behind, 2, at);
            fault(name, ahead + "zz" + behind, 2, at);
            fault(name, ahead + (tokens[i].matches("\\d+") ? "by" : "1") + behind, 2, at);
            fault(name, ahead + "#" + behind, 1, at);
            fault(name, ahead + "00000" + behind, 1, at);
            fault(name, ahead + "=" + tokens[i] + behind, 2, isSign ? at + 1 : at);
            at += tokens[i].length() + 1;
        }
    }

    private static void lengthOfStudy() {
        from(CLEAR);
        says("A STUDY is a TEXT of at most 900 bytes.");
        run("study{order 8;" + BLANKS + "} = 0", "told(0) = 8");
        run("study{" + BLANKS + "order 8;} = 0", "told(0) = 8");
        run("feed{" + BLANKS + "order 8;} = 900", "study(901) ! 1", "study(900) = 0",
            "told(0) = 8");
        run("feed{" + BLANKS + "order 8;} = 900", "study(899) ! 9 2@899");
        fault("study", BLANKS + "order 8#", 1, 899);
        // the last byte is of a NUMBER, of a WORD, a SIGN that can't stand there
        fault("study", BLANKS + " order 8", 2, 900);
        fault("study", BLANKS + "   order", 2, 900);
        fault("study", BLANKS + "order 8<", 2, 899);
        fault("study", BLANKS + "0000 111", 2, 892);
    }

    private static void tokens() {
        from(CLEAR);
        says("TOKENS, as long as they go, between them blanks (10, 32): WORDS (small letters), "
            + "NUMBERS (1 to 4 digits), SIGNS ; < > =",
            "1 no TOKEN begins so (a NUMBER of 5 digits and more: at its first).");
        for (char c = 0; c < 256; c++) {
            boolean isBlank = c == 10 || c == 32;
            boolean isLetter = c >= 'a' && c <= 'z';
            boolean isDigit = c >= '0' && c <= '9';
            boolean begins = isLetter || isDigit || ";<>=".indexOf(c) >= 0;
            String alone = isBlank ? "} = 0" : begins ? "} ! 9 2@0" : "} ! 9 1@0";
            run("study{" + c + alone);
            run("tours{" + c + alone);
            run("study{odds" + c + "4;" + (isBlank || c == '0' || c == '1' ? "} = 0"
                : isLetter ? "} ! 9 2@0" : isDigit ? "} ! 9 4@4" : begins ? "} ! 9 2@4"
                : "} ! 9 1@4"));
        }
        run("study{pin1by2weight3;odds7;\n\n order\n8 \n;} = 1", "weight(1, 2) = 3", "told(1) = 7",
            "told(0) = 8");
        run("study{\n \n} = 0");
        fault("study", "order 1 2;", 2, 8);
        fault("study", "order 1\n2;", 2, 8);
        fault("study", "or der 8;", 2, 0);
        fault("study", "orders 8;", 2, 0);
        fault("study", "orde 8;", 2, 0);
        fault("study", "oddsorder 8;", 2, 0);
        fault("study", "adds 8;", 2, 0);
        fault("study", "oxds 8;", 2, 0);
        fault("study", "oddx 8;", 2, 0);
        fault("study", "pin 1by 2weight3x;", 2, 16);
        each("study{odds 4;} = 0", "study{odds 04;} = 0", "study{odds 004;} = 0",
            "study{odds 0004;} = 0", "study{odds 0016;} = 0", "study{odds 0000;} = 0");
        fault("study", "odds 00004;", 1, 5);
        fault("study", "odds 12345;", 1, 5);
        fault("study", "odds 10000;", 1, 5);
        fault("study", "odds 9999;", 4, 5);
        fault("study", "odds " + "0".repeat(800) + ";", 1, 5);
        fault("study", "odds 99999999999999999999", 1, 5);
        fault("study", "00000", 1, 0);
        fault("study", "0000", 2, 0);
        fault("study", "odds 4 00004", 1, 7);
        fault("study", "odds 4z;", 2, 6);
        fault("study", "odds 4 ; <", 2, 9);
    }

    private static void parts() {
        from(CLEAR);
        says("STUDY: {PART}. PART: odds NUMBER ; or order NUMBER ; or here NUMBER by NUMBER ; or "
            + "pin NUMBER by NUMBER [weight NUMBER] ; ({ } any number of times, [ ] perhaps.)",
            "2 it can't stand there (the end: the text's length).");
        each("study{} = 0", "study{odds 3;} = 0", "study{order 3;} = 0", "study{here 1 by 3;} = 0",
            "study{pin 1 by 3;} = 1", "study{pin 1 by 3 weight 2;} = 1");
        run("study{pin 1 by 3;here 1 by 4;pin 1 by 4 weight 2;order 8;pin 2 by 3;odds 1;} = 3",
            "told(0) = 8", "told(1) = 1", "told(3) = 4", "here() = 1/4");
        spoil("study", "odds 3 ; order 4 ; here 1 by 3 ; pin 1 by 4 ; pin 2 by 5 weight 9 ;");
        fault("study", ";", 2, 0);
        fault("study", "odds 3;;", 2, 7);
        fault("study", "odds 3 4;", 2, 7);
        fault("study", "pin 1 by 2 weight 3 weight 4;", 2, 20);
        fault("study", "here 1 by 2 weight 3;", 2, 12);
        fault("study", "weight 3;", 2, 0);
        fault("study", "left;", 2, 0);
        fault("study", "end;", 2, 0);
    }

    private static void numbersOfStudy() {
        from(CLEAR);
        says("ODDS (0 to 16; 4 without), ORDER (1 to 200; 5 without).", "4 a NUMBER that can't be");
        run("study{order 8;} = 0", "told(1) = 4");
        run("study{odds 8;} = 0", "told(0) = 5");
        for (int odds : new int[] {0, 1, 15, 16}) {
            run("study{odds " + odds + ";} = 0", "told(1) = " + odds);
        }
        for (int odds : new int[] {17, 18, 99, 9999}) {
            fault("study", "odds " + odds + ";", 4, 5);
        }
        for (int order : new int[] {1, 2, 199, 200}) {
            run("study{order " + order + ";} = 0", "told(0) = " + order);
        }
        for (int order : new int[] {0, 201, 202, 999, 9999}) {
            fault("study", "order " + order + ";", 4, 6);
        }
        says("a VALUE and its WEIGHT (1 to 99; 1 without).");
        run("study{pin 1 by 2;} = 1", "weight(1, 2) = 1");
        for (int weight : new int[] {1, 2, 98, 99}) {
            run("study{pin 1 by 2 weight " + weight + ";} = 1", "weight(1, 2) = " + weight);
        }
        for (int weight : new int[] {0, 100, 101, 999, 9999}) {
            fault("study", "pin 1 by 2 weight " + weight + ";", 4, 18);
        }
    }

    private static void values() {
        from(CLEAR);
        says("HERE: where the WALKER is (1 by 2 without): of the TREE.",
            "(of a VALUE: its bottom, if that is 0 or below the top; of here: its bottom, if it is "
            + "not of the TREE, too).");
        run("study{odds 3;} = 0", "here() = 1/2", "told(6) = 0");
        for (String value : new String[] {"1/2", "1/3", "2/3", "1/9999", "9998/9999", "4999/9999"}) {
            run("study{here " + value.replace("/", " by ") + ";} = 0", "here() = " + value);
        }
        run("study{here 4998 by 9996;} = 0", "here() = 1/2", "told(6) = 0", "wasAt(1, 2) = 1");
        for (String value : new String[] {"0 by 1", "1 by 1", "0 by 0", "1 by 0", "2 by 1",
            "0 by 9999", "3 by 3", "3 by 2", "9 by 8"}) {
            fault("study", "here " + value + ";", 4, 10);
        }
        fault("study", "here 9999 by 9999;", 4, 13);
        fault("study", "here 9999 by 9998;", 4, 13);
        fault("study", "here 0 by 9999", 4, 10);
        fault("study", "here 1 by 10000;", 1, 10);
        fault("study", "here 10000 by 2;", 1, 5);
        for (String value : new String[] {"0/1", "1/1", "1/9999", "9998/9999"}) {
            run("study{pin " + value.replace("/", " by ") + ";} = 1", "pinAt(0) = " + value);
        }
        run("study{pin 0 by 9999;pin 9999 by 9999;} = 2", "pinAt(0) = 0/1", "pinAt(1) = 1/1");
        for (String value : new String[] {"0 by 0", "1 by 0", "2 by 1", "3 by 2", "9 by 0"}) {
            fault("study", "pin " + value + ";", 4, 9);
        }
        fault("study", "pin 9999 by 9998;", 4, 12);
        fault("study", "pin 9999 by 0;", 4, 12);
        fault("study", "pin 3 by 2 weight 0", 4, 9);
        fault("study", "pin 3 2;", 2, 6);
    }

    private static void faultsInOrder() {
        from(CLEAR);
        says("FAULTS, the first along the text (of one TOKEN the least kind):");
        fault("study", "# odds 17; x", 1, 0);
        fault("study", "x # odds 17;", 2, 0);
        fault("study", "odds 17 # x", 4, 5);
        fault("study", "odds 4; odds #", 5, 8);
        fault("study", "here 0 by 3 #", 4, 10);
        fault("study", "pin 1 by 2; pin 1 by 2 #", 5, 21);
        fault("study", "pin 1 by 2; pin 1 by 2 weight 0;", 5, 21);
        fault("study", TWELVE + "pin #", 6, TWELVE.length());
        fault("study", "odds 3; here 3 by 2 # ", 4, 18);
        // of one TOKEN the least kind: 1 ahead of 2, 4 and 5; 2 ahead of 5 and 6
        fault("study", "00000 4;", 1, 0);
        fault("study", "odds 00017;", 1, 5);
        fault("study", "pin 1 by 2; pin 1 by 00002;", 1, 21);
        fault("study", "odds 4; order odds 4;", 2, 14);
        fault("study", "odds 4 odds 4;", 2, 7);
        fault("study", "here 1 by 3; pin 1 here", 2, 19);
        fault("study", TWELVE + "odds pin 1 by 2;", 2, TWELVE.length() + 5);
        fault("tours", "up;".repeat(30) + "x", 2, 90);
        fault("tours", "up;".repeat(30) + "#", 1, 90);
        fault("tours", "up;".repeat(30) + "loop", 6, 90);
        fault("tours", "up;".repeat(27) + "loop 1;".repeat(3) + "loop 1;", 6, 102);
        fault("tours", "loop 1;".repeat(3) + "left loop", 2, 26);
        fault("tours", "loop 0;#", 4, 5);
        fault("tours", "pin 100 left", 4, 4);
    }

    private static void toldTwice() {
        from(CLEAR);
        says("5 odds, order, here told already (at that WORD); a PIN of a VALUE that is pinned (at "
            + "its bottom).", "two are alike, if they are by division.");
        fault("study", "odds 4; odds 4;", 5, 8);
        fault("study", "odds 3;odds 4;", 5, 7);
        fault("study", "odds 3; order 4; odds", 5, 17);
        fault("study", "order 5; order 5;", 5, 9);
        fault("study", "order 9; odds 1; order 17;", 5, 17);
        fault("study", "here 1 by 2; here 1 by 2;", 5, 13);
        fault("study", "here 1 by 3; here 3 by 2;", 5, 13);
        run("study{odds 3; order 4; here 1 by 3;} = 0", "study{odds 3; order 4; here 1 by 3;} = 0");
        fault("study", "pin 1 by 2; pin 1 by 2;", 5, 21);
        fault("study", "pin 1 by 2; pin 2 by 4;", 5, 21);
        fault("study", "pin 0 by 1; pin 0 by 9999;", 5, 21);
        fault("study", "pin 7 by 7; pin 1 by 1;", 5, 21);
        fault("study", "pin 3333 by 9999; pin 1 by 4; pin 1 by 3;", 5, 39);
        run("study{pin 1 by 2; pin 1 by 3; pin 2 by 3; pin 4999 by 9999;} = 4");
        run("study{here 1 by 3; pin 1 by 3; order 3; odds 3;} = 1");
        run("pin(1, 2, 1)", "study{pin 1 by 2;} = 1", "weight(1, 2) = 1");
    }

    private static void thirteenthPin() {
        from(CLEAR);
        says("PINS, at most 12:", "6 a 13th pin (at that WORD).");
        int length = TWELVE.length();
        run("study{" + TWELVE.substring(0, length - 13) + "} = 11");
        run("study{" + TWELVE + "} = 12", "pinAt(11) = 12/13", "pin(1, 13, 1) = 2", "told(2) = 12");
        run("study{" + TWELVE + "odds 3; order 9; here 1 by 3;} = 12");
        fault("study", TWELVE + "pin 1 by 2;", 6, length);
        fault("study", TWELVE + "pin 1 by 13;", 6, length);
        fault("study", TWELVE + "pin", 6, length);
        fault("study", TWELVE + "pin 2 by 1;", 6, length);
        fault("study", TWELVE + "odds 3; pin", 6, length + 8);
        fault("study", TWELVE + "pins", 2, length);
    }

    private static void studyTaken() {
        from(CLEAR);
        says("A STUDY that is taken is there in place of that ahead; the WALKER has VISITED just "
            + "where it is; there are no TOURS.");
        run("study{} = 0", "told(0) = 5", "told(1) = 4", "told(2) = 0", "told(3) = 0",
            "told(4) = 11", "told(5) = 1", "told(6) = 0", "here() = 1/2", "wasAt(1, 2) = 1",
            "wasAt(2, 5) = 0", "wasAt(3, 7) = 0", "weight(1, 3) ! 6", "live(0) ! 6",
            "mean(0, 1) ! 6", "lived(1) = 2");
        run("study{here 3 by 8; pin 1 by 8;} = 1", "told(5) = 1", "wasAt(3, 8) = 1",
            "wasAt(1, 2) = 0", "told(2) = 1", "live(0) ! 6", "undo() = 1", "undo() = 0",
            "told(0) = 7", "live(0) = 4");
    }

    private static void lengthOfTours() {
        from(CLEAR);
        says("TOURS are a TEXT of at most 300 bytes, of such TOKENS (none at first).");
        String blanks = " ".repeat(297);
        run("tours{up;" + blanks + "} = 1", "live(0) = 1");
        run("tours{" + blanks + "up;} = 1", "live(0) = 1");
        run("feed{" + blanks + "up;up;}", "tours(301) ! 1", "tours(300) = 1");
        run("feed{" + blanks + "up;up;}", "tours(299) ! 9 2@299");
        run("feed{" + blanks + "up;up;}", "tours(320) ! 1", "tours(MAX) ! 1", "study(3) = 0");
        fault("tours", blanks + "up#", 1, 299);
        fault("tours", blanks + " up", 2, 300);
        fault("tours", " ".repeat(295) + "pin 3", 2, 300);
        from();
        run("live(0) ! 6", "mean(0, 1) ! 6", "tours{} = 0", "live(0) = 0", "mean(0, 1) = 0/1");
    }

    private static void steps() {
        from(CLEAR);
        says("TOURS: {STEP}. STEP: left ; or right ; or up ; or flip ; or pin NUMBER ; or lift ; or "
            + "order NUMBER ; or any ; or when TEST ; {STEP} end ; or loop NUMBER ; {STEP} end ; or "
            + "stop ; TEST: at NUMBER by NUMBER, or pinned, or depth COMPARES NUMBER, or bottom "
            + "COMPARES NUMBER. COMPARES: < or > or =");
        for (String step : new String[] {"left;", "right;", "up;", "flip;", "pin 3;", "lift;",
            "order 3;", "any;", "stop;", "when pinned;end;", "when at 1 by 3;end;",
            "when depth<3;end;", "when depth>3;end;", "when depth=3;end;", "when bottom<3;end;",
            "when bottom>3;end;", "when bottom=3;end;", "loop 3;end;"}) {
            run("tours{" + step + "} = 1", "live(0) = 1");
        }
        run("tours{} = 0", "live(0) = 0");
        run("tours{loop 2;left;when pinned;up;end;right;end;stop;} = 6");
        spoil("tours", "left ; right ; up ; flip ; pin 3 ; lift ; order 9 ; any ; stop ;");
        spoil("tours", "when at 1 by 2 ; left ; end ; when pinned ; end ; loop 3 ; up ; end ;");
        spoil("tours", "when depth < 4 ; end ; when bottom > 5 ; end ; when depth = 6 ; end ;");
        fault("tours", "when depth <> 4;", 2, 12);
        fault("tours", "when depth <= 4;", 2, 12);
        fault("tours", "when pinned < 4;", 2, 12);
        fault("tours", "left 3;", 2, 5);
        fault("tours", "odds 3;", 2, 0);
        fault("tours", "here 1 by 2;", 2, 0);
        fault("tours", ";", 2, 0);
        says("FAULTS: 1, 2 as above (an end without a beginning; the text's end ahead of an end: "
            + "2).");
        fault("tours", "end;", 2, 0);
        fault("tours", "up;end;", 2, 3);
        fault("tours", "loop 2;end;end;", 2, 11);
        fault("tours", "when pinned;up;end;end;", 2, 19);
        fault("tours", "loop 2;", 2, 7);
        fault("tours", "loop 2;up;  ", 2, 12);
        fault("tours", "when pinned;\n", 2, 13);
        fault("tours", "loop 2;loop 2;end;", 2, 18);
        fault("tours", "loop 2;end", 2, 10);
        fault("tours", "loop 2;end up;", 2, 11);
        fault("tours", "loop 2;ends;", 2, 7);
        // a text is read anew, whatever was open in the one ahead
        run("tours{loop 2;loop 2;} ! 9 2@14", "tours{end;} ! 9 2@0", "tours{loop 2;} ! 9 2@7",
            "tours{up;} = 1", "live(0) = 1");
    }

    private static void numbersOfTours() {
        from(CLEAR);
        says("4 a NUMBER that can't be.", "bottom as above");
        numbers("pin #;", 4, 1, 99);
        numbers("order #;", 6, 1, 200);
        numbers("loop #;end;", 5, 1, 99);
        for (String test : new String[] {"depth<", "depth>", "depth=", "bottom<", "bottom>",
            "bottom="}) {
            each("tours{when " + test + "0;end;} = 1", "tours{when " + test + "9999;end;} = 1");
            fault("tours", "when " + test + "10000;end;", 1, 5 + test.length());
        }
        each("tours{when at 0 by 1;end;} = 1", "tours{when at 1 by 1;end;} = 1",
            "tours{when at 0 by 9999;end;} = 1", "tours{when at 9999 by 9999;end;} = 1");
        fault("tours", "when at 0 by 0;end;", 4, 13);
        fault("tours", "when at 1 by 0;end;", 4, 13);
        fault("tours", "when at 2 by 1;end;", 4, 13);
        fault("tours", "when at 9999 by 9998;end;", 4, 16);
        fault("tours", "when at 1 by 10000;end;", 1, 13);
    }

    private static void numbers(String step, int place, int least, int most) {
        for (int in : new int[] {least, least + 1, most - 1, most}) {
            run("tours{" + step.replace("#", "" + in) + "} = 1");
        }
        for (int out : new int[] {least - 1, most + 1, most + 2, 9999}) {
            fault("tours", step.replace("#", "" + out), 4, place);
        }
    }

    private static void manySteps() {
        from(CLEAR);
        says("6 a 31st STEP (at its WORD; end is none).");
        String up = "up;".repeat(29);
        run("tours{" + up + "} = 29", "live(0) = 29");
        run("tours{" + up + "up;} = 30", "live(0) = 30");
        run("tours{" + up + "loop 1;end;} = 30", "live(0) = 30");
        run("tours{loop 1;" + up + "end;} = 30", "live(0) = 30");
        run("tours{" + "loop1;end;".repeat(30) + "} = 30", "live(0) = 30");
        run("tours{" + "loop1;flip;end;".repeat(15) + "} = 30", "live(0) = 30");
        fault("tours", up + "up;up;", 6, 90);
        fault("tours", up + "up;up", 6, 90);
        fault("tours", up + "up;stop;", 6, 90);
        fault("tours", up + "up;loop 0;", 6, 90);
        fault("tours", up + "loop 1;end;up;", 6, 98);
        fault("tours", up + "loop 1;up;end;", 6, 94);
        fault("tours", "loop 1;" + up + "end;any;", 6, 98);
        fault("tours", up + "up;end;", 2, 90);
        fault("tours", "loop1;flip;end;".repeat(15) + "flip;", 6, 225);
    }

    private static void nesting() {
        from(CLEAR);
        says("7 a when, loop within three others (at its WORD).");
        String three = "loop 1;when depth>0;loop 1;";
        run("tours{" + three + "up;any;end;end;end;} = 5");
        run("tours{" + three + "end;when pinned;end;end;end;loop 2;end;} = 5");
        fault("tours", three + "loop 1;", 7, three.length());
        fault("tours", three + "when pinned;", 7, three.length());
        fault("tours", three + "loop", 7, three.length());
        fault("tours", three + "loop 0;", 7, three.length());
        fault("tours", three + "up;end;loop 1;when pinned;", 7, three.length() + 14);
        fault("tours", "when pinned;".repeat(3) + "when", 7, 36);
    }

    private static void feed() {
        from();
        says(": Twenty bytes come behind those on the tape, the highest of each int first: how many "
            + "it has; NONE if there would be more than 900.");
        run("feed{" + " ".repeat(860) + "} = 860", "feed{" + " ".repeat(20) + "} = 880",
            "feed(538976288, 538976288, 538976288, 0, 0) = 900", "feed(1, 2, 3, 4, 5) = -1",
            "feed(-1, -1, -1, -1, -1) = -1", "study(892) = 0", "feed(0, 0, 0, 0, 0) = 20");
        run("feed(1868850291, 540095276, 1701213243, 0, 0) = 20", "study(4) ! 9 2@4");
        // "orde" "r 12" "3;od" "ds 1" "6;  "
        run("feed(1869767781, 1914712370, 859533156, 1685266481, 909844512) = 20",
            "feed(1885957664, 824205945, 540162848, 538976288, 538976288) = 40", "study(40) = 1",
            "told(0) = 123", "told(1) = 16", "pinAt(0) = 1/2");
        // a byte above 127 is no blank and no letter, whatever its sign
        run("feed(-1, 0, 0, 0, 0) = 20", "study(1) ! 9 1@0");
        run("feed(538976288, -2145378272, 0, 0, 0) = 20", "study(8) ! 9 1@4");
    }

    private static void study() {
        says(": The first n bytes of the tape (which is empty then) are the STUDY: how many PINS "
            + "(1: n below 0, or more than the tape has, too; 9: the old one stays).");
        from(CLEAR);
        run("study(0) = 0", "study(1) ! 1", "study(-1) ! 1", "study(MIN) ! 1", "study(MAX) ! 1");
        from(with(CLEAR, "feed{order 8; odds 2; x}"));
        run("study(21) ! 1", "study(-1) ! 1", "study(MAX) ! 1", "study(MIN) ! 1", "study(16) = 0",
            "told(0) = 8", "told(1) = 2", "study(1) ! 1", "feed(0, 0, 0, 0, 0) = 20");
        run("study(20) ! 9 2@17", "study(1) ! 1", "told(0) = 7", "told(2) = 4", "live(0) = 4");
        run("study(0) = 0", "feed(0, 0, 0, 0, 0) = 20", "told(0) = 5");
        run("study(8) = 0", "told(0) = 8", "told(1) = 4");
        run("study(7) ! 9 2@7", "study(1) ! 1", "told(0) = 7");
    }

    private static void tours() {
        says(": Likewise the TOURS: how many STEPS (1: above 300, too; 9).");
        from(CLEAR);
        run("tours(0) = 0", "tours(1) ! 1", "tours(-1) ! 1", "tours(MIN) ! 1", "tours(MAX) ! 1");
        from(with(CLEAR, "feed{up;left;x}"));
        run("tours(21) ! 1", "tours(-1) ! 1", "tours(301) ! 1", "tours(8) = 2", "live(0) = 2",
            "tours(1) ! 1", "feed(0, 0, 0, 0, 0) = 20");
        run("tours(9) ! 9 2@8", "tours(1) ! 1", "live(0) = 4");
        run("tours(0) = 0", "tours(1) ! 1", "live(0) = 0");
    }

    private static void fault() {
        says(": Of the latest study() or tours() with STATUS 0 or 9, what 0: the FAULT (0 without "
            + "one), 1: its place (NONE without). NONE for others, and ahead of any.");
        from();
        each("fault(0) = -1", "fault(1) = -1", "fault(2) = -1", "fault(-1) = -1");
        run("study(1) ! 1", "fault(0) = -1", "tours(-1) ! 1", "fault(0) = -1", "fault(1) = -1");
        run("study{} = 0", "fault(0) = 0", "fault(1) = -1",
            "fault(2) = -1", "fault(-1) = -1", "fault(MAX) = -1", "fault(MIN) = -1");
        run("study{x} ! 9 2@0", "fault(2) = -1", "fault(-1) = -1", "fault(MAX) = -1",
            "fault(MIN) = -1", "study(1) ! 1", "fault(0) = 2", "fault(1) = 0", "tours(1) ! 1",
            "fault(0) = 2", "fault(1) = 0", "told(9) ! 1", "fault(0) = 2", "tours{up;} = 1",
            "fault(0) = 0", "fault(1) = -1", "tours{up;#} ! 9 1@3", "fault(0) = 1",
            "fault(1) = 3", "study{} = 0", "fault(0) = 0", "fault(1) = -1");
        run("tours{end;} ! 9 2@0", "mark()", "go(0)", "undo()", "fault(0) = 2", "fault(1) = 0");
    }

    private static void told() {
        says(": ORDER (what 0), ODDS (1); how many PINS (2), their WEIGHT together (3); how many "
            + "VALUES ROW has (4), VISITED (5); the WALKER's DEPTH (6) (1).");
        from(FULL);
        range("told(#)", 0, 6);
        run("told(0) = 7", "told(1) = 9", "told(2) = 4", "told(3) = 32", "told(4) = 19",
            "told(5) = 5", "told(6) = 5");
    }
}
