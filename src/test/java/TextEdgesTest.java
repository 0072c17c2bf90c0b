/**
 * A test for each sentence that names an edge of typed texts: promises 5 to 9, 'Typed text' and
 * 'Faults of a text'.
 */
public final class TextEdgesTest {
    private static final String DIGITS = "0123456789";
    private static final String TYPED = "abcdefghijklmnopqrstuvwxyz" + DIGITS + "+-<>=";
    private static final Checks CHECKS = new Checks();

    private TextEdgesTest() { }

    public static void main(String[] args) {
        charactersThatAreTyped();
        charactersThatAreNot();
        thirtyCharacters();
        wrongCharacterIsListedFirst();
        lengthThatItHad();
        whatCanStandInARow();
        whatCanStandInAnAim();
        whereATextCanEnd();
        lettersWithoutVariables();
        noLetterBehindC();
        numbers();
        digitsAheadOfALetter();
        coefficientsFromMinus9();
        coefficientsTo9();
        coefficientsAreSums();
        coefficientOfEachVariable();
        lowestPlaceCounts();
        rangeCountsLast();
        tooEarlyIsTheLength();
        fullTexts();
        textOfMIsAnAim();
        noFaultHasNoPlace();
        faultGoesByTheVariablesNow();
        CHECKS.end("TextEdgesTest");
    }

    private static Solver solver(String sentence, int... bounds) {
        CHECKS.about(sentence);
        return new Solver(CHECKS, bounds);
    }

    private static void fault(int variables, String words, char kind, int place) {
        Solver solver = new Solver(CHECKS);
        for (int i = 0; i < variables; i++) {
            solver.due(i, "addVariable", 0, 100);
        }
        solver.fault(words, kind, place);
        if (kind != '-') {
            solver.due(Solver.UNSUPPORTED, "tell");
        }
    }

    private static void charactersThatAreTyped() {
        Solver solver = solver("5: 'a' to 'z', '0' to '9', '+', '-', '<', '>' and '='");
        for (int i = 0; i < TYPED.length(); i++) {
            solver.due(1, "type", TYPED.charAt(i));
            solver.due(1, "erase");
        }
    }

    private static void charactersThatAreNot() {
        Solver solver = solver("5: none of 'a' to 'z', '0' to '9', '+', '-', '<', '>' and '='");
        for (char beside : new char[] {'a' - 1, 'z' + 1, '0' - 1, '9' + 1, '+' - 1, '+' + 1,
            '-' + 1, '<' - 1, '>' + 1, 'A', 'Z', ' ', 0, 65535}) {
            solver.due(Solver.ARGUMENT, "type", beside);
        }
        Tableaufloor fresh = new Tableaufloor();
        for (int character = 0; character < 65536; character++) {
            if (character % 500 == 0) {
                fresh = new Tableaufloor();
            }
            if (TYPED.indexOf(character) < 0) {
                CHECKS.due(Solver.ARGUMENT, Calls.call(fresh, "type", character, 0));
            }
        }
    }

    private static void thirtyCharacters() {
        Solver solver = solver("5: the text has 30 characters");
        for (int i = 1; i <= 30; i++) {
            solver.due(i, "type", 'a');
        }
        solver.due(Solver.STATE, "type", 'a');
        solver.due(Solver.STATE, "type", '0');
        solver.due(30, "erase");
        solver.due(1, "type", 'a');
    }

    private static void wrongCharacterIsListedFirst() {
        Solver solver = solver("5: of two exceptions the first one");
        solver.type("a+a+a+a+a+a+a+a+a+a+a+a+a+a+a+");
        solver.due(Solver.ARGUMENT, "type", 'A');
        solver.due(Solver.STATE, "type", 'a');
    }

    private static void lengthThatItHad() {
        Solver solver = solver("6: returns the length that it had", 0, 9);
        solver.due(0, "erase");
        solver.type("a");
        solver.due(1, "erase");
        solver.due(0, "erase");
        solver.type("a+a+a+a+a+a+a+a+a+a+a+a+a+a+a=");
        solver.due(30, "erase");
        solver.due(0, "erase");
        solver.say("a<=1");
        solver.due(0, "erase");
        solver.due('s', "fault");
        solver.due(0, "faultAt");
    }

    /** Types each character behind the words; all but those that can stand there are faults. */
    private static void canStand(String words, String characters) {
        for (int i = 0; i < TYPED.length(); i++) {
            char character = TYPED.charAt(i);
            Solver solver = new Solver(CHECKS, 0, 100, 0, 100);
            solver.type(words + character);
            Object kind = solver.ask("fault");
            Object place = solver.ask("faultAt");
            boolean isTaken = kind.equals((long) '-') || place.equals(words.length() + 1L);
            boolean isLetter = characters.contains("a") && !words.equals("m");
            CHECKS.due(words + character, characters.indexOf(character) >= 0, isTaken);
            if (!isTaken) {
                CHECKS.due(words + character, (long) words.length(), place);
                CHECKS.due(words + character,
                        (long) (isLetter && character == 'c' ? 'v' : 's'), kind);
            }
        }
    }

    private static void whatCanStandInARow() {
        CHECKS.about("Typed text: a sum, then a relation, then a number, then nothing");
        String first = DIGITS + "ab";
        canStand("", first + "-m");
        for (String words : new String[] {"-", "a+", "a-", "-a+", "a+b-"}) {
            canStand(words, first);
        }
        for (String words : new String[] {"3", "0", "-3", "a+3", "a-9"}) {
            canStand(words, "ab");
        }
        for (String words : new String[] {"a", "-a", "3b", "-3b", "a+b", "a-0b"}) {
            canStand(words, "+-<>=");
        }
        canStand("a<", "=");
        canStand("a>", "=");
        for (String words : new String[] {"a<=", "a>=", "a="}) {
            canStand(words, DIGITS + "-");
            canStand(words + "-", DIGITS);
            canStand(words + "1", DIGITS);
            canStand(words + "-0", DIGITS);
            canStand(words + "12", "");
            canStand(words + "-00", "");
        }
    }

    private static void whatCanStandInAnAim() {
        CHECKS.about("Typed text: \"max\" or \"min\", a sum, and then nothing");
        String first = DIGITS + "ab";
        canStand("m", "ai");
        canStand("ma", "x");
        canStand("mi", "n");
        for (String words : new String[] {"max", "min"}) {
            canStand(words, first + "-");
            canStand(words + "-", first);
            canStand(words + "3", "ab");
            canStand(words + "-0", "ab");
            canStand(words + "a", "+-");
            canStand(words + "-9b", "+-");
            canStand(words + "a+", first);
            canStand(words + "a-", first);
            canStand(words + "a+1", "ab");
        }
    }

    private static void whereATextCanEnd() {
        CHECKS.about("Faults: the text ends too early");
        for (String early : new String[] {"", "-", "3", "-3", "a", "3a", "a+", "a-", "a+3", "a+3a",
            "a<", "a>", "a<=", "a>=", "a=", "a<=-", "a=-", "m", "ma", "mi", "max", "min", "max-",
            "min3", "maxa+", "mina-", "maxa+3"}) {
            fault(1, early, 's', early.length());
        }
        for (String whole : new String[] {"a<=0", "a>=0", "a=0", "-3a=0", "a+a=-0", "a=00", "a=-99",
            "maxa", "mina", "max-a", "min0a", "maxa+a", "mina-9a"}) {
            fault(1, whole, '-', 0);
        }
    }

    private static void lettersWithoutVariables() {
        CHECKS.about("Faults: 'v', there is no such variable");
        for (int variables = 0; variables < 3; variables++) {
            for (char letter = 'a'; letter <= 'c'; letter++) {
                boolean isThere = letter - 'a' < variables;
                fault(variables, letter + "=1", isThere ? '-' : 'v', 0);
                fault(variables, "-" + letter + "=1", isThere ? '-' : 'v', 1);
                fault(variables, "-7" + letter + "=1", isThere ? '-' : 'v', 2);
                fault(variables, "max" + letter, isThere ? '-' : 'v', 3);
                fault(variables, "min-0" + letter, isThere ? '-' : 'v', 5);
            }
        }
        fault(3, "a+b+c=1", '-', 0);
        CHECKS.about("Faults: 'v' only where a letter can stand");
        fault(1, "ab=1", 's', 1);
        fault(1, "a=b", 's', 2);
        fault(1, "a=1b", 's', 3);
        fault(1, "a<b", 's', 2);
        fault(1, "mb", 's', 1);
        fault(1, "maxab", 's', 4);
    }

    private static void noLetterBehindC() {
        CHECKS.about("Faults: 'v' is for 'a' to 'c' alone");
        for (int variables = 0; variables <= 3; variables += 3) {
            for (char letter = 'd'; letter <= 'z'; letter++) {
                if (letter != 'm') {
                    fault(variables, letter + "=1", 's', 0);
                }
                fault(variables, "max" + letter, 's', 3);
            }
        }
    }

    private static void numbers() {
        CHECKS.about("Typed text: a number has one or two digits, and can have '-' ahead of it");
        String[] typed = {"0", "9", "-0", "-9", "00", "05", "-05", "10", "-10", "99", "-99"};
        int[] due = {0, 9, 0, -9, 0, 5, -5, 10, -10, 99, -99};
        for (int i = 0; i < typed.length; i++) {
            Solver solver = new Solver(CHECKS, 0, 100);
            solver.say("a=" + typed[i]);
            solver.due(due[i], "setNumber", 0, 1);
        }
        fault(1, "a=100", 's', 4);
        fault(1, "a=-100", 's', 5);
        fault(1, "a=000", 's', 4);
        fault(1, "a=--1", 's', 3);
        fault(1, "a=+1", 's', 2);
        fault(1, "a=1-", 's', 3);
    }

    private static void digitsAheadOfALetter() {
        CHECKS.about("Typed text: a digit ahead of it or not; without it, the digit 1 is meant");
        String[] typed = {"a", "-a", "0a", "-0a", "1a", "-1a", "9a", "-9a"};
        int[] due = {1, -1, 0, 0, 1, -1, 9, -9};
        for (int i = 0; i < typed.length; i++) {
            Solver solver = new Solver(CHECKS, 0, 100);
            solver.say(typed[i] + "=1");
            solver.due(due[i], "coefficient", 0, 0);
        }
        fault(1, "10a=1", 's', 1);
        fault(1, "99a=1", 's', 1);
        fault(1, "a+00a=1", 's', 3);
    }

    private static void coefficientsFromMinus9() {
        CHECKS.about("Typed text: a coefficient is from -9");
        for (String taken : new String[] {"-9a", "-4a-5a", "a-9a-a", "-a-a-a-a-a-a-a-a-a"}) {
            fault(1, taken + "=1", '-', 0);
            fault(1, "min" + taken, '-', 0);
        }
        for (String refused : new String[] {"-9a-a", "-5a-5a", "0a-9a-a",
            "-a-a-a-a-a-a-a-a-a-a"}) {
            fault(1, refused + "=1", 'r', refused.length() + 2);
            fault(1, "min" + refused, 'r', refused.length() + 3);
        }
    }

    private static void coefficientsTo9() {
        CHECKS.about("Typed text: a coefficient is to 9");
        for (String taken : new String[] {"9a", "4a+5a", "a+9a-a", "a+a+a+a+a+a+a+a+a"}) {
            fault(1, taken + "=1", '-', 0);
            fault(1, "max" + taken, '-', 0);
        }
        for (String refused : new String[] {"9a+a", "5a+5a", "0a+9a+a", "a+a+a+a+a+a+a+a+a+a",
            "9a+9a+9a+9a+9a+9a+9a"}) {
            fault(1, refused + "=1", 'r', refused.length() + 2);
            fault(1, "max" + refused, 'r', refused.length() + 3);
        }
    }

    private static void coefficientsAreSums() {
        Solver solver = solver("Typed text: only the whole sum must be from -9 to 9", 0, 9, 0, 9);
        solver.say("9a+9a+9b-9a-9b-9b=1", "-9a-9a+9a+b+9b-b=1", "9a-9a=0");
        int[][] due = {{9, -9}, {-9, 9}, {0, 0}};
        for (int row = 0; row < due.length; row++) {
            solver.due(due[row][0], "coefficient", row, 0);
            solver.due(due[row][1], "coefficient", row, 1);
        }
    }

    private static void coefficientOfEachVariable() {
        CHECKS.about("Typed text: the coefficient of each variable must be in range");
        for (char letter = 'a'; letter <= 'c'; letter++) {
            fault(3, "9a+9b+9c=1", '-', 0);
            fault(3, "9a+9b+9c+" + letter + "=1", 'r', 12);
            fault(3, "-9a-9b-9c=1", '-', 0);
            fault(3, "-9a-9b-9c-" + letter + "=1", 'r', 13);
        }
    }

    private static void lowestPlaceCounts() {
        CHECKS.about("Faults: the one at the lowest place counts");
        fault(1, "b+x=1", 'v', 0);
        fault(1, "+b=1", 's', 0);
        fault(1, "x+b=1", 's', 0);
        fault(1, "a+b+", 'v', 2);
        fault(1, "a+c+b=1", 'v', 2);
        fault(1, "b", 'v', 0);
        fault(1, "a+b=100", 'v', 2);
        fault(1, "aa+b=1", 's', 1);
        fault(1, "maxa=b", 's', 4);
        fault(1, "maxb=a", 'v', 3);
    }

    private static void rangeCountsLast() {
        CHECKS.about("Faults: if there is neither, 'r'");
        fault(1, "9a+9a", 's', 5);
        fault(1, "9a+9a+b=1", 'v', 6);
        fault(1, "9a+9a=1", 'r', 7);
        fault(1, "9a+9a=x", 's', 6);
        fault(1, "9a+9a=-", 's', 7);
        fault(1, "9a+9a=123", 's', 8);
        fault(1, "max9a+9a", 'r', 8);
        fault(1, "max9a+9a+", 's', 9);
        fault(1, "max9a+9a=1", 's', 8);
        fault(1, "max9a+9b", 'v', 7);
    }

    private static void tooEarlyIsTheLength() {
        CHECKS.about("Faults: the place is the length if it ends too early, or for 'r'");
        fault(1, "", 's', 0);
        fault(1, "a", 's', 1);
        fault(1, "max", 's', 3);
        fault(1, "9a+a=1", 'r', 6);
        fault(1, "9a+a=12", 'r', 7);
        fault(1, "9a+a=-12", 'r', 8);
    }

    private static void fullTexts() {
        CHECKS.about("Typed text: texts of 30 characters");
        String sum = "a+a+a-a+a-a+a-a+a-a+a-a+a-a";
        fault(1, sum + "+a=", 's', 30);
        fault(1, sum + "<=7", '-', 0);
        fault(1, "max" + sum, '-', 0);
        fault(1, "max" + sum.substring(0, 26) + "+", 's', 29);
        fault(1, sum.replace('-', '+') + "<=7", 'r', 30);
        fault(1, "max" + sum.replace('-', '+'), 'r', 30);
        fault(1, sum + "<=b", 's', 29);
        fault(1, "min" + sum.substring(0, 26) + "b", 'v', 29);
        Solver solver = new Solver(CHECKS, 3, 9);
        solver.say(sum + "<=7", "min" + sum);
        solver.due(2, "coefficient", 0, 0);
        solver.value(0, 6, 1);
        solver.due(0, "erase");
    }

    private static void textOfMIsAnAim() {
        CHECKS.about("9: a text that begins with 'm' is read as one of an aim");
        for (String words : new String[] {"", "a", "am", "-m", "nm", "n", "l", "3m", "xam"}) {
            Solver solver = new Solver(CHECKS, 0, 9);
            solver.type(words);
            solver.due(false, "isAim");
        }
        for (String words : new String[] {"m", "mm", "max", "min", "m<=1", "m-", "maxa=1"}) {
            Solver solver = new Solver(CHECKS, 0, 9);
            solver.type(words);
            solver.due(true, "isAim");
        }
        fault(1, "m<=1", 's', 1);
        fault(1, "mxa", 's', 1);
        fault(1, "maxm", 's', 3);
        fault(1, "am", 's', 1);
    }

    private static void noFaultHasNoPlace() {
        Solver solver = solver("8: throws if it has none", 0, 9);
        solver.type("a=");
        solver.due(2, "faultAt");
        solver.type("1");
        solver.due(Solver.NO_ELEMENT, "faultAt");
        solver.type("2");
        solver.due(Solver.NO_ELEMENT, "faultAt");
        solver.type("3");
        solver.due(4, "faultAt");
        solver.due(5, "erase");
        solver.type("maxa");
        solver.due(Solver.NO_ELEMENT, "faultAt");
    }

    private static void faultGoesByTheVariablesNow() {
        Solver solver = solver("7: there is no such variable, when it is asked");
        solver.type("a+b=1");
        solver.due('v', "fault");
        solver.due(0, "faultAt");
        solver.due(0, "addVariable", 0, 9);
        solver.due('v', "fault");
        solver.due(2, "faultAt");
        solver.due(Solver.UNSUPPORTED, "tell");
        solver.due(1, "addVariable", 0, 9);
        solver.due('-', "fault");
        solver.due(0, "tell");
    }
}
