/** The bounds of the text: 'Terms', 1, and promises 1 to 4. Above each test stands the sentence that it holds. */
public final class TextEdgesTest {
    private static final String FULL_BRANCH = "b999,998,997,996,995,994,993,992;" + "c999 99 99;".repeat(5) + "t255;".repeat(6);

    public static void main(String[] args) {
        newObject();
        letters();
        lettersAtMost();
        longestText();
        shorterText();
        partsAtMost();
        partsBounds();
        customersAtMost();
        customersBounds();
        tasksAtMost();
        tasksBounds();
        figures();
        blanks();
        sideBySide();
        wordsAtFirst();
        wordsBetween();
        wordsBehindNumbers();
        wordsInClauses();
        firstAndLeastFault();
        emptyText();
        faultChangesNothing();
        branchBeginsAnew();
        latestFault();
        Check.end();
    }

    /** The text is the branch, or has this fault; on an object of its own. */
    private static void reads(String text, int answer, int fault) {
        Desk desk = new Desk();
        Check.due("branch() of '" + text + "'", desk.tell(text), answer);
        Check.due("fault() of '" + text + "'", desk.call("fault"), fault);
        desk.due("told 3", 0);
        if (answer < 0) {
            desk.row("told", 0, 0, 0, 0);
        }
    }

    private static void good(String text, int parts, int customers, int tasks) {
        Desk desk = new Desk();
        Check.due("branch() of '" + text + "'", desk.tell(text), customers);
        desk.due("fault", Check.NONE);
        desk.row("told", 0, parts, customers, tasks, 0, 0);
    }

    // 'No BRANCH.'
    private static void newObject() {
        Desk desk = new Desk();
        desk.row("told", 0, 0, 0, 0, 0, 0, 0, 0, 0, 0, 0, 0, 0, 0, 0);
        desk.due("fault", Check.NONE);
        desk.row("part", 0, Check.UNKNOWN);
        desk.row("customer 0", 0, Check.UNKNOWN);
        desk.row("order", 0, Check.NONE);
        desk.due("look", Check.NONE);
        desk.due("judge", Check.NONE);
        desk.due("tear", 0);
        desk.row("has", 0, 1000, 9500, 10499);
        desk.due("undo", Check.NOT);
        desk.row("goBack", 0, Check.NOT, Check.NOT);
        desk.due("seed 0", 0);
    }

    // 'One letter (a number 0 .. 255) comes behind THE TEXT: how many it has. OUTSIDE'
    private static void letters() {
        Desk desk = new Desk();
        desk.due("feed 0", 1);
        desk.due("feed 255", 2);
        desk.refused("feed -1", Check.OUTSIDE);
        desk.refused("feed 256", Check.OUTSIDE);
        desk.refused("feed " + Integer.MIN_VALUE, Check.OUTSIDE);
        desk.refused("feed " + Integer.MAX_VALUE, Check.OUTSIDE);
        // Letters are numbers, not bytes: none of these is a 'b'.
        desk.refused("feed " + (256 + 'b'), Check.OUTSIDE);
        desk.refused("feed " + ('b' - 256), Check.OUTSIDE);
        desk.due("told 3", 2);
        desk.due("feed 98", 3);
    }

    // 'FULL (240)'
    private static void lettersAtMost() {
        Desk desk = new Desk();
        for (int k = 1; k <= 240; k++) {
            desk.due("feed " + (int) (k == 1 ? 'b' : k == 2 ? '0' : ' '), k);
        }
        desk.due("told 3", 240);
        desk.refused("feed 59", Check.FULL);
        desk.refused("feed 256", Check.OUTSIDE);
        desk.refused("feed -1", Check.OUTSIDE);
        desk.due("feed 59", Check.FULL);
        // The ';' did not come behind it.
        desk.due("branch", -11);
        desk.due("fault", 240);
        desk.due("told 3", 0);
        desk.due("feed 98", 1);
    }

    // 'THE BRANCH is told in a text (240 letters at most)'; 'the end at the text's length'
    private static void longestText() {
        String blanks = " ".repeat(240 - FULL_BRANCH.length());
        good(FULL_BRANCH + blanks, 8, 5, 6);
        good(blanks + FULL_BRANCH, 8, 5, 6);
        good("b0;" + " ".repeat(237), 1, 0, 0);
        good("b0" + " ".repeat(237) + ";", 1, 0, 0);
        reads("b0;" + " ".repeat(236) + "x", -11, 239);
        reads("b0;" + " ".repeat(236) + "c", -11, 240);
        reads("b0;" + " ".repeat(234) + "t2;", -12, 238);
        reads("b0;" + " ".repeat(236) + "b", -13, 239);
        reads("b" + "0".repeat(239), -12, 1);
        reads("b0;" + "t1;".repeat(79), -13, 21);
    }

    // 'the end at the text's length': a text that ends within a longer one told ahead of it has nothing of that one
    private static void shorterText() {
        String longer = "b0,1;c0 0 0;t1;";
        int[] ends = {1, 2, 3, 4, 6, 7, 8, 9, 10, 11, 13, 14};
        for (int end : ends) {
            Desk desk = Desk.of(longer);
            Check.due("branch() of the first " + end, desk.tell(longer.substring(0, end)), -11);
            desk.due("fault", end);
            desk.row("told", 0, 2, 1, 1);
            // The same behind a text with a FAULT.
            desk.tell(longer + "x");
            Check.due("branch() of the first " + end + " again", desk.tell(longer.substring(0, end)), -11);
            desk.due("fault", end);
        }
        Desk desk = Desk.of(longer);
        desk.tell("b0,1;c0 0 0;");
        desk.row("told", 0, 2, 1, 0);
        desk.tell("b0,1;");
        desk.row("told", 0, 2, 0, 0);
        desk.call("branch");
        desk.row("told", 0, 0, 0, 0);
    }

    // '1 to 8 PARTS'; 'a ninth T: at its ','
    private static void partsAtMost() {
        reads("b;", -11, 1);
        for (int parts = 1; parts <= 8; parts++) {
            good("b0" + ",0".repeat(parts - 1) + ";", parts, 0, 0);
        }
        reads("b0,0,0,0,0,0,0,0,0;", -11, 16);
        reads("b0,0,0,0,0,0,0,0,", -11, 16);
        reads("b0,0,0,0,0,0,0,0,1000;", -11, 16);
        reads("b0,0,0,0,0,0,0,0 , 0;", -11, 17);
        reads("b0,0,0,0,0,0,0,1000,0;", -12, 15);
    }

    // 'T 0 .. 999'; 'out of its bounds', 'at its first'
    private static void partsBounds() {
        Desk desk = Desk.of("b0,999,1,998;");
        desk.row("part", -1, Check.UNKNOWN, 0, 999, 1, 998, Check.UNKNOWN);
        reads("b1000;", -12, 1);
        reads("b999,1000;", -12, 5);
        reads("b999, 1000;", -12, 6);
        reads("b0,0,0,0,0,0,0,9999;", -12, 15);
        reads("b-1;", -11, 1);
        reads("b0,-1;", -11, 3);
        reads("b+1;", -11, 1);
        reads("b1.5;", -11, 2);
    }

    // '5 CUSTOMERS at most'; 'a sixth 'c' (at it)'
    private static void customersAtMost() {
        for (int customers = 0; customers <= 5; customers++) {
            good("b0;" + "c0 0 0;".repeat(customers), 1, customers, 0);
        }
        String five = "b0;" + "c0 0 0;".repeat(5);
        reads(five + "c", -13, 38);
        reads(five + "c0 0 0;", -13, 38);
        reads(five + " c1000 0 0;", -13, 39);
        reads(five + "t0;c0 0 0;", -13, 41);
        reads(five + "t2;c0 0 0;", -12, 39);
        // A sixth that cannot stand there anyway: of two faults at one letter the least.
        reads("b0;" + "c0 0 0;".repeat(4) + "c0 0 c", -11, 36);
    }

    // 'BALANCE S less 500 at first, S 0 .. 999; PAID P a MONTH, 0 .. 99; spends M each MONTH, 0 .. 99'
    private static void customersBounds() {
        Desk desk = Desk.of("b0;c0 0 0;c999 99 99;c500 0 99;c499 99 0;c501 1 98;");
        int[][] want = {{9500, 0, 0}, {10499, 99, 99}, {10000, 0, 99}, {9999, 99, 0}, {10001, 1, 98}};
        for (int c = 0; c < 5; c++) {
            desk.due("customer " + c + " 0", want[c][0]);
            desk.due("customer " + c + " 2", want[c][1]);
            desk.due("customer " + c + " 3", want[c][2]);
        }
        reads("b0;c1000 0 0;", -12, 4);
        reads("b0;c999 100 0;", -12, 8);
        reads("b0;c999 99 100;", -12, 11);
        reads("b0;c999 999 0;", -12, 8);
        reads("b0;c 0  0   100 ;", -12, 12);
        reads("b0;c-1 0 0;", -11, 4);
        reads("b0;c0 -1 0;", -11, 6);
    }

    // '6 TASKS at most'; 'a seventh 't' (at it)'
    private static void tasksAtMost() {
        for (int tasks = 0; tasks <= 6; tasks++) {
            good("b0;" + "t0;".repeat(tasks), 1, 0, tasks);
        }
        String six = "b0;" + "t0;".repeat(6);
        reads(six + "t", -13, 21);
        reads(six + "t0;", -13, 21);
        reads(six + "  t256;", -13, 23);
        reads(six + "c0 0 0;t0;", -13, 28);
        reads(six + "c0 0 t", -11, 26);
    }

    // 't' A ';' (.. take PARTS of A, 0 .. 255, a SET of those there are); 'an A with bits of PARTS that there are not'
    private static void tasksBounds() {
        for (int parts = 1; parts <= 8; parts++) {
            String text = "b0" + ",0".repeat(parts - 1) + ";";
            good(text + "t0;t" + ((1 << parts) - 1) + ";", parts, 0, 2);
            reads(text + "t" + (1 << parts) + ";", -12, text.length() + 1);
            reads(text + "t " + ((1 << parts) + 1) + ";", -12, text.length() + 2);
            reads(text + "t999;", -12, text.length() + 1);
        }
        reads("b0,0,0;t7;t15;", -12, 11);
        reads("b0;t-1;", -11, 4);
    }

    // 'NUMBERS have one to three figures'; 'a NUMBER of four figures or more'
    private static void figures() {
        Desk desk = Desk.of("b7,07,007,0,00,000;c007 09 099;t01;t001;");
        desk.row("part", 0, 7, 7, 7, 0, 0, 0);
        desk.row("customer 0", 0, 9507, 63, 9, 99);
        desk.row("can 0", 0, 1, 1, Check.UNKNOWN);
        reads("b0007;", -12, 1);
        reads("b0000;", -12, 1);
        reads("b12345;", -12, 1);
        reads("b4294967296;", -12, 1);
        reads("b18446744073709551617;", -12, 1);
        reads("b0;c0000 0 0;", -12, 4);
        reads("b0;c0 0000 0;", -12, 6);
        reads("b0;c0 0 0000;", -12, 8);
        reads("b0;t0000;", -12, 4);
        reads("b0000", -12, 1);
    }

    // 'blanks (32) may stand anywhere but within NUMBERS'
    private static void blanks() {
        Desk desk = Desk.of("  b  12  ,  345  ;  c  6   7   8  ;  t  3  ;  ");
        desk.row("told", 0, 2, 1, 1);
        desk.row("part", 0, 12, 345);
        desk.row("customer 0", 0, 9506, 0, 7, 8);
        Desk.of(" b 1 , 2 , 3 , 4 ; ").row("part", 0, 1, 2, 3, 4, Check.UNKNOWN);
        reads("b1 2;", -11, 3);
        reads("b1,3 4;", -11, 5);
        reads("b1 , 2 , 3 4;", -11, 11);
        reads("b0;t0 0;", -11, 6);
        reads("b0;c1 2 3 4;", -11, 10);
        for (int letter : new int[] {0, 9, 10, 11, 12, 13, 31, 33, 160, 255}) {
            reads("b0;" + (char) letter, -11, 3);
        }
    }

    // 'two NUMBERS side by side need one'
    private static void sideBySide() {
        good("b0;c0 0 0;", 1, 1, 0);
        good("b0;c0  0  0;", 1, 1, 0);
        reads("b0;c0 00;", -11, 8);
        reads("b0;c000;", -11, 7);
        reads("b0;c0000;", -12, 4);
        reads("b0;c0,0,0;", -11, 5);
        reads("b0;c0;0;0;", -11, 5);
    }

    // 'another word first than 'b'; 'first, once'
    private static void wordsAtFirst() {
        for (int letter = 0; letter <= 255; letter++) {
            if (letter != ' ') {
                reads("" + (char) letter, -11, letter == 'b' ? 1 : 0);
                reads(" " + (char) letter, -11, letter == 'b' ? 2 : 1);
            }
        }
        reads("c0 0 0;b0;", -11, 0);
        reads("t0;b0;", -11, 0);
        reads("1000", -11, 0);
        reads("B0;", -11, 0);
        reads("b0;b0;", -13, 3);
        reads("b0;c0 0 0;t0;b", -13, 13);
        reads("b0;  b0;", -13, 5);
    }

    // 'a letter that is no word'; ''b' again'
    private static void wordsBetween() {
        for (int letter = 0; letter <= 255; letter++) {
            String text = "b0;" + (char) letter;
            if (letter == 'b') {
                reads(text, -13, 3);
            } else if (letter == 'c' || letter == 't') {
                reads(text, -11, 4);
            } else if (letter == ' ') {
                good(text, 1, 0, 0);
            } else {
                reads(text, -11, 3);
            }
        }
    }

    // '1 it cannot stand there', behind a T, an M, an A
    private static void wordsBehindNumbers() {
        for (int letter = 0; letter <= 255; letter++) {
            boolean isFigure = letter >= '0' && letter <= '9';
            boolean goesOn = isFigure || letter == ' ';
            String sign = "" + (char) letter;
            if (letter == ';') {
                good("b0;", 1, 0, 0);
                good("b0;c0 0 0;", 1, 1, 0);
                good("b0;t0;", 1, 0, 1);
            } else {
                reads("b0" + sign, -11, goesOn || letter == ',' ? 3 : 2);
                reads("b0;c0 0 0" + sign, -11, goesOn ? 10 : 9);
                reads("b0;t1" + sign, isFigure ? -12 : -11, isFigure ? 4 : goesOn ? 6 : 5);
            }
        }
    }

    // '1 it cannot stand there', where a NUMBER is due; 'the end at the text's length'
    private static void wordsInClauses() {
        for (int letter = 0; letter <= 255; letter++) {
            boolean goesOn = letter >= '0' && letter <= '9' || letter == ' ';
            String sign = "" + (char) letter;
            reads("b" + sign, -11, goesOn ? 2 : 1);
            reads("b0," + sign, -11, goesOn ? 4 : 3);
            reads("b0;c" + sign, -11, goesOn ? 5 : 4);
            reads("b0;c0 " + sign, -11, goesOn ? 7 : 6);
            reads("b0;c0 0 " + sign, -11, goesOn ? 9 : 8);
            reads("b0,0,0,0;t" + sign, -11, goesOn ? 11 : 10);
        }
    }

    // 'FAULTS, at the first letter that has one .., of these the least'
    private static void firstAndLeastFault() {
        reads("b0 1000;", -11, 3);
        reads("b0;1000", -11, 3);
        reads("b0,b", -11, 3);
        reads("b0b", -11, 2);
        reads("b1000 x", -12, 1);
        reads("b1000", -12, 1);
        reads("b0;t2", -12, 4);
        reads("b0;b1000;x", -13, 3);
        reads("b0;x b", -11, 3);
        reads("b0;c1000 100 100;b", -12, 4);
    }

    // 'An empty text: no BRANCH.'
    private static void emptyText() {
        reads("", 0, Check.NONE);
        Desk desk = Desk.of(Check.HILL);
        desk.due("branch", 0);
        desk.due("fault", Check.NONE);
        desk.row("told", 0, 0, 0, 0, 0, 0, 0, 0, 0, 0, 0, 0, 0, 0, 0);
        desk.due("month 1", Check.NOT);
        desk.due("drift 1", Check.NOT);
        desk.due("part 0", Check.UNKNOWN);
        desk.due("customer 0 0", Check.UNKNOWN);
        // No BRANCH again behind a branch() of nothing, and a BRANCH can come again.
        desk.due("branch", 0);
        Check.due("branch() anew", desk.tell("b0;c0 0 0;"), 1);
    }

    /** An object with something of all that a branch() ends. */
    private static Desk used() {
        Desk desk = Desk.of(Check.HILL);
        desk.call("seed 77");
        desk.call("month 2");
        desk.call("lend 0 1 5");
        desk.call("keep 1");
        desk.call("seed 78");
        desk.call("spend 0 5");
        desk.call("drift 1");
        desk.call("spending 4");
        desk.call("must 0 1");
        desk.call("see 0 true");
        desk.call("write 0 5");
        return desk;
    }

    // 'THE TEXT (it is empty then, with a FAULT, too) ..: -10 less the number of its FAULT (all else is as it was)'
    private static void faultChangesNothing() {
        Desk desk = used();
        desk.faulty("x", -11, 0);
        desk.faulty("b1", -11, 2);
        desk.faulty("b1,2,3;c1 1 1;t7;t8;", -12, 18);
        desk.faulty("b1,2;c1 1 1;t1;b", -13, 15);
        Desk none = new Desk();
        none.call("spending 3");
        none.call("keep 0");
        none.faulty("b1;c1 1 1;t1;x", -11, 13);
    }

    // 'becomes THE BRANCH (MONTH 0, no DEBTS; no SPENDINGS, musts, nothing SEEN, no BOOK; IMAGES, what could be undone are gone; THE SEED stays)'
    private static void branchBeginsAnew() {
        for (String text : new String[] {"", Check.HILL, "b1,2;c3 4 5;c600 7 8;"}) {
            Desk desk = used();
            int seed = desk.call("seed 5");
            desk.call("seed " + seed);
            desk.tell(text);
            desk.due("told 3", 0);
            desk.due("told 4", 0);
            desk.row("told", 9, 0, 0, 0, 0, 0);
            desk.due("told 7", 0);
            desk.due("undo", Check.NOT);
            desk.row("goBack", 0, Check.NOT, Check.NOT);
            desk.row("has", 0, 1000, 9500, 10499);
            desk.due("judge", Check.NONE);
            desk.due("seed 1", seed);
            if (!text.isEmpty()) {
                desk.due("owes 1 0", 100000);
                desk.row("customer 0", 4, 100000);
            }
        }
    }

    // 'The letter of the FAULT of the latest branch(); NONE.'
    private static void latestFault() {
        Desk desk = new Desk();
        desk.due("fault", Check.NONE);
        desk.tell("b0;x");
        desk.due("fault", 3);
        desk.feed("b00");
        desk.due("fault", 3);
        desk.call("branch");
        desk.due("fault", 3);
        desk.tell("b");
        desk.due("fault", 1);
        desk.tell("b0;");
        desk.due("fault", Check.NONE);
        desk.tell("c");
        desk.due("fault", 0);
        desk.call("branch");
        desk.due("fault", Check.NONE);
    }
}
