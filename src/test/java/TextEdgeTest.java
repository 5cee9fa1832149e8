/** The boundary cases of the document's text, rules and substitutes (promises 3, 4, 16), a method for each sentence. */
public final class TextEdgeTest {
    private static final String TERMS = "Terms, the text (promises 3, 4)";

    public static void main(String[] args) {
        skills();
        atMost300Bytes();
        rowsEndBySemicolons();
        blanksBetweenSigns();
        blanksWithinNumbers();
        numbersHaveOneOrTwoDigits();
        numbersHaveNoZeroInFront();
        kinds();
        leastNumbers();
        greatestNumbers();
        rests();
        longestDuties();
        restsAndLongestDutiesMayBeLeftOut();
        upToSixNeeds();
        numbersOfNeeds();
        ranksOfNeeds();
        hoursOfSubstitutes();
        upToTenSubstitutes();
        wrongAtTheFirstByte();
        wrongAtTheLengthWhenSomethingIsMissing();
        wrongNumbersAtTheLastDigit();
        thirdDigitsAtThemselves();
        zerosAheadOfADigit();
        numbersInAllPlaces();
        kindsToldTwice();
        kindOfATenthRule();
        sameSkillTwice();
        rightTextsReplaceRules();
        rightTextsReplaceNeeds();
        rightTextsReplaceSubstitutes();
        Check.end();
    }

    private static void skills() {
        Check.sentence(TERMS, "SKILLS are a .. j.");
        Check.right("v1:0-0,0a,0j;sa=j[0-0];sj=a[0-0];", 1);
        for (char c : new char[] {'`', 'k', 'z', 'A', 'J', '0', '\u00e1'}) {
            Check.wrongAt("v1:0-0,0" + c + ";", 8);
            Check.wrongAt("s" + c + "=b[0-0];", 1);
            Check.wrongAt("sb=" + c + "[0-0];", 3);
        }
        CrewRules x = Check.with("v1:0-9,1a,1j;");
        x.join(0, 1);
        x.skill(1, 0, 9);
        Check.due("a is skill 0", x.verdict(0, 0), 11);
        x.skill(1, 9, 9);
        Check.due("j is skill 9", x.verdict(0, 0), 0);
    }

    private static void atMost300Bytes() {
        Check.sentence(TERMS, "A TEXT has at most 300 bytes");
        String text = "v1:0-9,9a>9;" + "sa=b[10-23];".repeat(10) + "v2:1-9~24^48,=1a>1,=2b>2,=3c>3,=4d>4,=5e>5,=6f>6;";
        String blanks = " ".repeat(300 - text.length() - "v3:0-0;".length());
        Check.right(text + blanks + "v3:0-0;", 3);
        Check.wrongAt(text + blanks + "v3:0-00", 299);
        Check.wrongAt(text + blanks + " v3:0-0", 300);
    }

    private static void rowsEndBySemicolons() {
        Check.sentence(TERMS, "ROWS, each ended by a semicolon");
        Check.right("", 0);
        Check.right("v1:0-0;", 1);
        Check.right("v1:0-0;sa=b[0-0];v2:0-0;", 2);
        Check.wrongAt("v1:0-0", 6);
        Check.wrongAt("sa=b[0-0]", 9);
        Check.wrongAt("v1:0-0v2:0-0;", 6);
        Check.wrongAt("sa=b[0-0]v1:0-0;", 9);
        Check.wrongAt(";", 0);
        Check.wrongAt("v1:0-0;;", 7);
    }

    private static void blanksBetweenSigns() {
        Check.sentence(TERMS, "blanks may stand between signs");
        Check.right(" ", 0);
        Check.right("  v  1  :  0  -  9  ~  24  ^  48  ,  =  1  a  >  9  ,  2  b  ;  ", 1);
        Check.right("  s  a  =  b  [  10  -  23  ]  ;  ", 0);
        for (char c : new char[] {'\t', '\n', '\r', '\u0000', '\u00a0'}) {
            Check.wrongAt("v1:0-0" + c + ";", 6);
        }
    }

    private static void blanksWithinNumbers() {
        Check.sentence(TERMS, "not within numbers");
        Check.wrongAt("v1 1:0-0;", 3);
        Check.wrongAt("v1:1 1-2;", 5);
        Check.wrongAt("v1:0-1 1;", 7);
        Check.wrongAt("v1:0-1~1 1;", 9);
        Check.wrongAt("v1:0-1^1  1;", 10);
        Check.wrongAt("v1:0-1,1 1a;", 9);
        Check.wrongAt("v1:0-1,1a>1 1;", 12);
        Check.wrongAt("sa=b[1 1-2];", 7);
        Check.wrongAt("sa=b[1-1 1];", 9);
    }

    private static void numbersHaveOneOrTwoDigits() {
        Check.sentence(TERMS, "NUMBERS have one or two digits");
        Check.right("v1:0-1~1^1;sa=b[1-1];", 1);
        Check.right("v1:0-1~11^11;sa=b[11-11];", 1);
        Check.wrongAt("v1:0-1~111;", 9);
        Check.wrongAt("v1:0-1^111;", 9);
        Check.wrongAt("sa=b[111-1];", 7);
        Check.wrongAt("sa=b[1-111];", 9);
        Check.wrongAt("v:0-1;", 1);
        Check.wrongAt("v1:-1;", 3);
        Check.wrongAt("v1:0-;", 5);
        Check.wrongAt("v1:0-1~;", 7);
        Check.wrongAt("v1:0-1^;", 7);
        Check.wrongAt("v1:0-1,a;", 7);
        Check.wrongAt("v1:0-1,1a>;", 10);
        Check.wrongAt("sa=b[-1];", 5);
        Check.wrongAt("sa=b[1-];", 7);
        // The bytes on both sides of the digits.
        Check.wrongAt("v1:0-1~/;", 7);
        Check.wrongAt("v1:0-1~:;", 7);
        Check.wrongAt("v1:0-1~1/;", 8);
        Check.wrongAt("v1:0-1~1:;", 8);
    }

    private static void numbersHaveNoZeroInFront() {
        Check.sentence(TERMS, "without 0 in front of another one");
        Check.right("v1:0-0~0,0a>0;sa=b[0-0];", 1);
        Check.right("v1:0-0~10^10;sa=b[10-20];", 1);
        Check.wrongAt("v1:00-0;", 4);
        Check.wrongAt("v1:0-00;", 6);
        Check.wrongAt("v1:0-0~05;", 8);
        Check.wrongAt("v1:0-0,05a;", 8);
        Check.wrongAt("v1:0-0,0a>05;", 11);
        Check.wrongAt("sa=b[05-5];", 6);
        Check.wrongAt("sa=b[5-05];", 8);
    }

    private static void kinds() {
        Check.sentence(TERMS, "its KIND (1 .. 9)");
        Check.right("v1:0-0;", 1);
        Check.right("v9:0-0;", 1);
        Check.wrongAt("v0:0-0;", 1);
        Check.wrongAt("v10:0-0;", 2);
    }

    private static void leastNumbers() {
        Check.sentence(TERMS, "the LEAST number of persons (0 .. 9)");
        Check.due("0", Check.with("v1:0-9;").rule(1, 0), 0);
        Check.due("9", Check.with("v1:9-9;").rule(1, 0), 9);
        Check.wrongAt("v1:10-9;", 4);
    }

    private static void greatestNumbers() {
        Check.sentence(TERMS, "the GREATEST (not below, to 9)");
        for (int least = 0; least <= 9; least++) {
            Check.due("the same", Check.with("v1:" + least + "-" + least + ";").rule(1, 1), least);
            Check.due("9", Check.with("v1:" + least + "-9;").rule(1, 1), 9);
            Check.wrongAt("v1:" + least + "-10;", 6);
            if (least > 0) {
                Check.wrongAt("v1:" + least + "-" + (least - 1) + ";", 5);
                Check.wrongAt("v1:" + least + "-0;", 5);
            }
        }
    }

    private static void rests() {
        Check.sentence(TERMS, "perhaps ~ and the REST (0 .. 24 hours)");
        Check.due("0", Check.with("v1:0-0~0;").rule(1, 2), 0);
        Check.due("24", Check.with("v1:0-0~24;").rule(1, 2), 24);
        Check.wrongAt("v1:0-0~25;", 8);
        Check.wrongAt("v1:0-0~30;", 8);
        Check.wrongAt("v1:0-0~1~1;", 8);
    }

    private static void longestDuties() {
        Check.sentence(TERMS, "perhaps ^ and the LONGEST duty (1 .. 48)");
        Check.due("1", Check.with("v1:0-0^1;").rule(1, 3), 1);
        Check.due("48", Check.with("v1:0-0^48;").rule(1, 3), 48);
        Check.wrongAt("v1:0-0^0;", 7);
        Check.wrongAt("v1:0-0^49;", 8);
        Check.wrongAt("v1:0-0^50;", 8);
        Check.wrongAt("v1:0-0^1^1;", 8);
    }

    private static void restsAndLongestDutiesMayBeLeftOut() {
        Check.sentence(TERMS, "perhaps ~ and the REST (0 .. 24 hours); perhaps ^ and the LONGEST duty (1 .. 48); then");
        Check.right("v1:0-0,0a;v2:0-0~1,0a;v3:0-0^1,0a;v4:0-0~1^1,0a;", 4);
        Check.wrongAt("v1:0-0^1~1;", 8);
        Check.wrongAt("v1:0-0,0a~1;", 9);
        Check.wrongAt("v1:0-0,0a^1;", 9);
    }

    private static void upToSixNeeds() {
        Check.sentence(TERMS, "then up to 6 NEEDS");
        for (int needs = 0; needs <= 6; needs++) {
            CrewRules x = Check.with("v1:0-0" + ",0a".repeat(needs) + ";");
            Check.due("rule(1, 4)", x.rule(1, 4), needs);
        }
        Check.wrongAt("v1:0-0" + ",0a".repeat(7) + ";", 24);
        Check.wrongAt("v1:0-0" + ",=0a>1".repeat(6) + " ,", 43);
        eachRuleHasSixOfItsOwn();
    }

    private static void eachRuleHasSixOfItsOwn() {
        String unmet = ":0-9" + ",9a".repeat(6) + ";";
        String met = ":0-9" + ",0a".repeat(6) + ";";
        CrewRules x = Check.with("v9" + unmet + "v7" + unmet + "v8" + met + "v2" + met + "v1" + unmet + "v3" + unmet + "v4" + unmet);
        int[] due = {10, 0, 10, 10, 1, 1, 10, 0, 10};
        for (int kind = 1; kind <= 9; kind++) {
            x.kind(kind, kind);
            Check.due("the needs of kind " + kind, x.verdict(kind, 0), due[kind - 1]);
        }
        int[] never = {1, 3, 4, 7, 9, 0};
        for (int i = 0; i < never.length; i++) {
            Check.due("never(0, " + i + ")", x.never(0, i), never[i]);
        }
        Check.right(x, "v9" + met, 1);
        Check.due("six needs of kind 9", x.verdict(9, 0), 0);
        Check.due("six needs of kind 9", x.never(0, 0), 0);
    }

    private static void numbersOfNeeds() {
        Check.sentence(TERMS, "perhaps = (EXACTLY), a number (0 .. 9) and a skill");
        Check.right("v1:0-0,0a,9a,=0a,=9a;", 1);
        Check.wrongAt("v1:0-0,10a;", 8);
        Check.wrongAt("v1:0-0,=10a;", 9);
        Check.wrongAt("v1:0-0,==0a;", 8);
        Check.wrongAt("v1:0-0,0=a;", 8);
    }

    private static void ranksOfNeeds() {
        Check.sentence(TERMS, "perhaps > and a RANK (0 .. 9)");
        Check.right("v1:0-0,0a>0,0a>9,0a;", 1);
        Check.wrongAt("v1:0-0,0a>10;", 11);
        Check.wrongAt("v1:0-0,0a>1>1;", 11);
        CrewRules x = Check.with("v1:0-9,1a;v2:0-9,1a>0;v3:0-9,1a>1;");
        x.join(0, 1);
        x.skill(1, 0, 9);
        Check.due("rank 0 where none is told", x.verdict(0, 0), 0);
        x.kind(0, 2);
        Check.due("rank 0 where 0 is told", x.verdict(0, 0), 0);
        x.kind(0, 3);
        Check.due("rank 0 where 1 is told", x.verdict(0, 0), 10);
    }

    private static void hoursOfSubstitutes() {
        Check.sentence(TERMS, "[, an hour (0 .. 23), -, an hour (0 .. 23), ]");
        Check.right("sa=b[0-23];sa=b[23-0];sa=b[0-0];sa=b[23-23];", 0);
        Check.wrongAt("sa=b[24-0];", 6);
        Check.wrongAt("sa=b[0-24];", 8);
        Check.wrongAt("sa=b[30-0];", 6);
    }

    private static void upToTenSubstitutes() {
        Check.sentence(TERMS, "up to 10 of them in a text");
        String ten = "sa=b[0-0];".repeat(9) + "sc=d[5-5];";
        CrewRules x = Check.with(ten + "v1:0-0;");
        x.join(0, 1);
        x.skill(1, 3, 99);
        Check.due("the tenth holds", x.having(0, 2, 0, 5), 1);
        Check.wrongAt(x, ten + "sa=b[0-0];", 100);
        Check.wrongAt(x, ten + " v1:0-0; s", 109);
        Check.right(x, ten, 0);
    }

    /** Each byte there is behind each begin of a text: the table tells which ones may stand there. */
    private static void wrongAtTheFirstByte() {
        Check.sentence(TERMS, "A text is WRONG at the first byte with which it can't be right, whatever follows");
        String text = "v1:0-9~1^2,=1a>3;sa=b[1-2];";
        String digits = "0123456789";
        String[] mayStand = {
            "vs", "123456789", ":", digits, "-", digits, "~^,;", digits, digits + "^,;", "123456789", digits + ",;", "=" + digits, digits,
            "abcdefghij", ">,;", digits, ",;", "vs", "abcdefghij", "=", "bcdefghij", "[", digits, "-" + digits, digits, "]0123", ";", "vs",
        };
        for (int i = 0; i <= text.length(); i++) {
            for (char c = 0; c < 256; c++) {
                String begin = text.substring(0, i) + c;
                boolean rowsAreWhole = begin.replace(" ", "").endsWith(";");
                boolean may = c == ' ' || mayStand[i].indexOf(c) >= 0;
                if (!may) {
                    Check.wrongAt(begin, i);
                    Check.wrongAt(begin + "?;v1:0-0;", i);
                } else if (rowsAreWhole || begin.isBlank()) {
                    Check.right(begin, begin.startsWith("v") ? 1 : 0);
                } else {
                    Check.wrongAt(begin, i + 1);
                }
            }
        }
    }

    private static void wrongAtTheLengthWhenSomethingIsMissing() {
        Check.sentence(TERMS, "(its length when something is missing)");
        String text = "v1:0-9~1^2,=1a>3;sa=b[1-2];v2:0-9~11^22,1a,1b;";
        for (int i = 1; i < text.length(); i++) {
            boolean whole = text.charAt(i - 1) == ';';
            for (String blanks : new String[] {"", " ", "   "}) {
                String begin = text.substring(0, i) + blanks;
                if (whole) {
                    Check.right(begin, begin.startsWith("v") ? 1 : 0);
                } else {
                    Check.wrongAt(begin, begin.length());
                }
            }
        }
    }

    private static void wrongNumbersAtTheLastDigit() {
        Check.sentence(TERMS, "numbers that are not so at the last of their digits, of two at most");
        Check.wrongAt("v0:0-0;", 1);
        Check.wrongAt("v99:0-0;", 2);
        Check.wrongAt("v999:0-0;", 2);
        Check.wrongAt("v1:99-9;", 4);
        Check.wrongAt("v1:999-9;", 4);
        Check.wrongAt("v1:5-4;", 5);
        Check.wrongAt("v1:5-44;", 6);
        Check.wrongAt("v1:5-444;", 6);
        Check.wrongAt("v1:0-0~99;", 8);
        Check.wrongAt("v1:0-0~999;", 8);
        Check.wrongAt("v1:0-0^99;", 8);
        Check.wrongAt("v1:0-0,99a;", 8);
        Check.wrongAt("v1:0-0,0a>99;", 11);
        Check.wrongAt("sa=b[99-0];", 6);
        Check.wrongAt("sa=b[0-99];", 8);
        Check.wrongAt("v1:5-4", 5);
        Check.wrongAt("v1:0-0~25", 8);
    }

    private static void thirdDigitsAtThemselves() {
        Check.sentence(TERMS, "a third one at itself");
        Check.wrongAt("v1:0-0~240;", 9);
        Check.wrongAt("v1:0-0~100;", 9);
        Check.wrongAt("v1:0-0^480;", 9);
        Check.wrongAt("v1:0-0^4800;", 9);
        Check.wrongAt("sa=b[230-0];", 7);
        Check.wrongAt("sa=b[0-230];", 9);
    }

    private static void zerosAheadOfADigit() {
        Check.sentence(TERMS, "(a 0 ahead of a digit at itself where 0 may not be, else at that digit)");
        Check.wrongAt("v01:0-0;", 1);
        Check.wrongAt("v00:0-0;", 1);
        Check.wrongAt("v1:0-0^01;", 7);
        Check.wrongAt("v1:0-0^00;", 7);
        Check.wrongAt("v1:1-01;", 5);
        Check.wrongAt("v1:9-09;", 5);
        Check.wrongAt("v1:0-01;", 6);
        Check.wrongAt("v1:01-1;", 4);
        Check.wrongAt("v1:0-0~01;", 8);
        Check.wrongAt("v1:0-0~00;", 8);
        Check.wrongAt("v1:0-0~000;", 8);
        Check.wrongAt("v1:0-0,01a;", 8);
        Check.wrongAt("v1:0-0,0a>01;", 11);
        Check.wrongAt("sa=b[01-1];", 6);
        Check.wrongAt("sa=b[1-01];", 8);
        // A 0 with a blank behind it is a number of its own.
        Check.wrongAt("v1:0-0~0 1;", 9);
    }

    /** All numbers of one to three digits at each place where a number stands. */
    private static void numbersInAllPlaces() {
        Check.sentence(TERMS, "numbers that are not so at the last of their digits, of two at most, a third one at itself (a 0 ahead of a digit at itself where 0 may not be, else at that digit)");
        numbersBetween("v", ":0-9;", 1, 9);
        numbersBetween("v1:", "-9;", 0, 9);
        numbersBetween("v1:0-", ";", 0, 9);
        numbersBetween("v1:4-", ";", 4, 9);
        numbersBetween("v1:0-9~", ";", 0, 24);
        numbersBetween("v1:0-9^", ";", 1, 48);
        numbersBetween("v1:0-9,", "a;", 0, 9);
        numbersBetween("v1:0-9,1a>", ";", 0, 9);
        numbersBetween("sa=b[", "-3];", 0, 23);
        numbersBetween("sa=b[3-", "];", 0, 23);
    }

    private static void numbersBetween(String begin, String end, int low, int high) {
        for (int digits = 1, limit = 10; digits <= 3; digits++, limit *= 10) {
            for (int number = 0; number < limit; number++) {
                String told = ("00" + number).substring(2 + String.valueOf(number).length() - digits);
                int place = placeInNumber(told, low, high);
                if (place < 0) {
                    Check.right(begin + told + end, begin.startsWith("v") ? 1 : 0);
                } else {
                    Check.wrongAt(begin + told + end, begin.length() + place);
                }
            }
        }
    }

    private static int placeInNumber(String told, int low, int high) {
        if (told.startsWith("0") && told.length() > 1) {
            return low > 0 ? 0 : 1;
        }
        String two = told.length() > 2 ? told.substring(0, 2) : told;
        int value = Integer.parseInt(two);
        if (value < low || value > high) {
            return two.length() - 1;
        }
        return told.length() > 2 ? 2 : -1;
    }

    private static void kindsToldTwice() {
        Check.sentence(TERMS, "a kind told twice in a text likewise");
        Check.wrongAt("v1:0-0;v1:0-0;", 8);
        Check.wrongAt("v9:0-0;v2:0-0;v9:0-0;", 15);
        Check.wrongAt("v1:0-0;v1", 8);
        Check.wrongAt("v1:0-0; v  1 :0-0;", 11);
        Check.wrongAt("v1:0-0;v1 1:0-0;", 8);
        Check.wrongAt("v1:0-0;v11:0-0;", 9);
        Check.wrongAt("v1:0-0;v111:0-0;", 9);
        Check.wrongAt("v1:0-0;v01:0-0;", 8);
        CrewRules x = new CrewRules();
        Check.right(x, "v1:0-0;", 1);
        Check.right(x, "v1:0-0;", 1);
        Check.wrongAt(x, "v1:0-0;x", 7);
        Check.right(x, "v1:0-0;", 1);
    }

    private static void kindOfATenthRule() {
        Check.sentence(TERMS, "(also that of a tenth rule)");
        StringBuilder nine = new StringBuilder();
        for (int kind = 1; kind <= 9; kind++) {
            nine.append('v').append(kind).append(":0-0;");
        }
        for (int kind = 1; kind <= 9; kind++) {
            Check.wrongAt(nine + "v" + kind + ":0-0;", 64);
        }
        Check.wrongAt(nine + "v0:0-0;", 64);
        Check.wrongAt(nine + "v10:0-0;", 65);
        Check.wrongAt(nine + "v", 64);
        Check.wrongAt(nine + "v?", 64);
        Check.right(nine + "sa=b[0-0];", 9);
    }

    private static void sameSkillTwice() {
        Check.sentence(TERMS, "the same skill twice in a substitute at the second one");
        for (char c = 'a'; c <= 'j'; c++) {
            Check.wrongAt("s" + c + "=" + c + "[0-0];", 3);
        }
        Check.wrongAt("s a = a [0-0];", 6);
        Check.wrongAt("sa=a", 3);
        Check.right("sa=b[0-0];sb=a[0-0];", 0);
    }

    private static void rightTextsReplaceRules() {
        Check.sentence(TERMS, "A right text takes the place of all rules and substitutes there were.");
        CrewRules x = Check.with("v1:1-2~3^4,1a,1b;v2:0-0;v9:0-0;");
        for (int i = 0; i < 3; i++) {
            Check.right(x, "v1:5-6;v3:0-0;", 2);
            int[] due = {5, 6, -1, -1, 0};
            for (int what = 0; what < 5; what++) {
                Check.due("rule(1, " + what + ")", x.rule(1, what), due[what]);
            }
            Check.unknown("rule(2, 0)", () -> x.rule(2, 0));
            Check.unknown("rule(9, 0)", () -> x.rule(9, 0));
        }
        Check.right(x, "sa=b[0-0];", 0);
        Check.unknown("rule(1, 0)", () -> x.rule(1, 0));
        Check.unknown("rule(3, 0)", () -> x.rule(3, 0));
    }

    private static void rightTextsReplaceNeeds() {
        Check.sentence(TERMS, "A right text takes the place of all rules and substitutes there were.");
        CrewRules x = new CrewRules();
        for (int i = 0; i < 3; i++) {
            Check.right(x, "v1:0-9,0a,9a,9a,9a,9a,9a;v2:0-9,9a,9a,9a,9a,9a,9a;v9:0-9,=9a>9;", 3);
        }
        for (int i = 0; i < 3; i++) {
            Check.right(x, "v1:0-9,0a;v2:0-9;v9:0-9,0a;", 3);
            x.kind(2, 2);
            x.kind(9, 9);
            Check.due("one need, and it is met", x.verdict(1, 0), 0);
            Check.due("no need any more", x.verdict(2, 0), 0);
            Check.due("neither exactly nor a rank", x.verdict(9, 0), 0);
            Check.due("all can be met", x.never(0, 0), 0);
        }
    }

    private static void rightTextsReplaceSubstitutes() {
        Check.sentence(TERMS, "A right text takes the place of all rules and substitutes there were.");
        CrewRules x = Check.with("sa=b[0-23];sa=c[0-23];");
        x.join(0, 1);
        x.skill(1, 1, 9);
        Check.due("b for a", x.having(0, 0, 0, 0), 1);
        Check.right(x, "sa=c[0-23];", 0);
        Check.due("c alone for a", x.having(0, 0, 0, 0), 0);
        x.skill(1, 2, 9);
        Check.due("c for a", x.having(0, 0, 0, 0), 1);
        Check.right(x, "v1:0-0;", 1);
        Check.due("none for a", x.having(0, 0, 0, 0), 0);
        Check.right(x, "sa=b[0-23];", 0);
        Check.right(x, "", 0);
        Check.due("none for a in an empty text", x.having(0, 0, 0, 0), 0);
    }
}
