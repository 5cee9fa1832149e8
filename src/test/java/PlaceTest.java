import java.util.Random;
import java.util.regex.Matcher;
import java.util.regex.Pattern;

/** Promises 3, 4: where texts are wrong, by a list of edges and by a grammar written as a pattern. */
public final class PlaceTest {
    private static final String KIND = "B[1-9]";
    private static final String NEED = "B,(?:B=)?B[0-9]B[a-j](?:B>B[0-9])?";
    private static final String REST = "(?:B~B(?:1[0-9]|2[0-4]|[0-9]))?";
    private static final String LONGEST = "(?:B\\^B(?:[1-3][0-9]|4[0-8]|[1-9]))?";
    private static final String HOUR = "B(?:1[0-9]|2[0-3]|[0-9])";
    private static final String RULE = "Bv" + KIND + "B:B[0-9]B-B[0-9]" + REST + LONGEST + "(?:" + NEED + "){0,6}B;";
    private static final String SUBSTITUTE = "BsB[a-j]B=B[a-j]B\\[" + HOUR + "B-" + HOUR + "B\\]B;";
    private static final Pattern TEXT = Pattern.compile(("(?:" + RULE + "|" + SUBSTITUTE + ")*B").replace("B", " *"));

    public static void main(String[] args) {
        numbers();
        kindsToldTwice();
        substitutes();
        needs();
        orderOfParts();
        blanks();
        missingEnds();
        changedTextsAgainstTheGrammar();
        Check.end();
    }

    private static void wrong(String text, int place) {
        Check.wrongAt(new CrewRules(), text, place);
    }

    private static void right(String text, int rules) {
        Check.right(new CrewRules(), text, rules);
    }

    private static void numbers() {
        wrong("v0:1-2;", 1);
        wrong("v01:1-2;", 1);
        wrong("v00:1-2;", 1);
        wrong("v10:1-2;", 2);
        wrong("v123:1-2;", 2);
        wrong("v1:10-2;", 4);
        wrong("v1:100-2;", 4);
        wrong("v1:00-2;", 4);
        wrong("v1:1-10;", 6);
        wrong("v1:3-2;", 5);
        wrong("v1:3-0;", 5);
        wrong("v1:3-25;", 6);
        wrong("v1:3-01;", 5);
        wrong("v1:0-01;", 6);
        right("v1:9-9;", 1);
        right("v1:0-0;", 1);
        right("v1:1-2~0;", 1);
        right("v1:1-2~24;", 1);
        wrong("v1:1-2~00;", 8);
        wrong("v1:1-2~30;", 8);
        wrong("v1:1-2~25;", 8);
        wrong("v1:1-2~253;", 8);
        wrong("v1:1-2~243;", 9);
        wrong("v1:1-2~120;", 9);
        right("v1:1-2^1;", 1);
        right("v1:1-2^48;", 1);
        wrong("v1:1-2^0;", 7);
        wrong("v1:1-2^05;", 7);
        wrong("v1:1-2^00;", 7);
        wrong("v1:1-2^49;", 8);
        wrong("v1:1-2^480;", 9);
        right("v1:1-2,9a>9;", 1);
        right("v1:1-2,0a>0;", 1);
        wrong("v1:1-2,10a;", 8);
        wrong("v1:1-2,01a;", 8);
        wrong("v1:1-2,1a>10;", 11);
        wrong("v1:1-2,1a>00;", 11);
        right("sa=b[0-23];", 0);
        right("sa=b[23-0];", 0);
        wrong("sa=b[24-2];", 6);
        wrong("sa=b[03-2];", 6);
        wrong("sa=b[2-24];", 8);
        wrong("sa=b[2-230];", 9);
        wrong("sa=b[2-00];", 8);
    }

    private static void kindsToldTwice() {
        wrong("v1:1-2;v1:1-2;", 8);
        wrong("v1:1-2; v 1 :1-2;", 10);
        wrong("v1:1-2;v2:1-2;v1", 15);
        wrong("v1:1-2;v12:1-2;", 9);
        StringBuilder nine = new StringBuilder();
        for (int kind = 9; kind >= 1; kind--) {
            nine.append('v').append(kind).append(":0-0;");
        }
        right(nine.toString(), 9);
        wrong(nine + "v4:0-0;", 64);
        wrong(nine + "v0:0-0;", 64);
        wrong(nine + "v44:0-0;", 65);
        wrong(nine + "v", 64);
        wrong(nine + "vx", 64);
    }

    private static void substitutes() {
        wrong("sa=a[1-2];", 3);
        wrong("s a = a [1-2];", 6);
        wrong("sk=a[1-2];", 1);
        wrong("sa=k[1-2];", 3);
        wrong("sA=b[1-2];", 1);
        wrong("sa-b[1-2];", 2);
        wrong("sa=b(1-2];", 4);
        wrong("sa=b[1,2];", 6);
        wrong("sa=b[1-2;", 8);
        wrong("sa=b[]", 5);
        right("sa=b[1-1];sa=b[1-1];sb=a[1-1];sj=i[0-0];", 0);
        StringBuilder ten = new StringBuilder();
        for (int i = 0; i < 10; i++) {
            ten.append("sa=b[1-2];");
        }
        right(ten.toString(), 0);
        right(ten + "v1:0-0;", 1);
        wrong(ten + "sa=b[1-2];", 100);
        wrong(ten + "v1:0-0; s", 108);
        wrong(ten + "x", 100);
    }

    private static void needs() {
        right("v1:0-0,0a,0a,0a,0a,0a,0a;", 1);
        wrong("v1:0-0,0a,0a,0a,0a,0a,0a,0a;", 24);
        wrong("v1:0-0,0a,0a,0a,0a,0a,0a ,0a;", 25);
        wrong("v1:1-2,1k;", 8);
        wrong("v1:1-2,1`;", 8);
        right("v1:1-2,1j;", 1);
        wrong("v1:1-2,a;", 7);
        wrong("v1:1-2,==1a;", 8);
        wrong("v1:1-2,=a;", 8);
        wrong("v1:1-2,1a=1;", 9);
        wrong("v1:1-2,1a>1>1;", 11);
        wrong("v1:1-2,1ab;", 9);
        wrong("v1:1-2,,1a;", 7);
        wrong("v1:1-2,;", 7);
        wrong("v1:1-2,1a>;", 10);
    }

    private static void orderOfParts() {
        right("v1:1-2~8^9,1a;", 1);
        wrong("v1:1-2^9~8;", 8);
        wrong("v1:1-2,1a~8;", 9);
        wrong("v1:1-2,1a^8;", 9);
        wrong("v1:1-2~8~8;", 8);
        wrong("v1:1-2^8^8;", 8);
        wrong("v1;1-2;", 2);
        wrong("v1:1~2;", 4);
        wrong("v:1-2;", 1);
        wrong("v1:-2;", 3);
        wrong("v1:1-;", 5);
        wrong("v1:1-2;;", 7);
        wrong(";", 0);
        wrong("V1:1-2;", 0);
        wrong("v1:1-2;x", 7);
    }

    private static void blanks() {
        right(" v 1 : 1 - 2 ~ 12 ^ 13 , = 1 a > 3 , 2 b ; s a = b [ 12 - 13 ] ; ", 1);
        right("   ", 0);
        wrong("v1:1-2~1 2;", 9);
        wrong("v1 2:1-2;", 3);
        wrong("v1:1 1-2;", 5);
        wrong("\tv1:1-2;", 0);
        wrong("v1:1-2;\n", 7);
        wrong("v1:1-2\u0000;", 6);
        wrong("v1:1-2\u00a0;", 6);
    }

    private static void missingEnds() {
        String rule = "v1:1-2~3^4,=1a>2";
        for (int i = 1; i <= rule.length(); i++) {
            wrong(rule.substring(0, i), i);
            wrong(rule.substring(0, i) + "  ", i + 2);
        }
        String substitute = "sa=b[1-2]";
        for (int i = 1; i <= substitute.length(); i++) {
            wrong(substitute.substring(0, i), i);
        }
    }

    /** The pattern knows no kind told twice, no greatest below the least, no same skill: changes that could lead to these are left out. */
    private static void changedTextsAgainstTheGrammar() {
        String[] texts = {
            "v1:0-9~12^34,1a,=2b>3;sa=b[10-23];v2 : 0 - 0 ~ 24 ^ 48 , 1 j ;",
            "sc=d[0-0];s e = f [ 1 - 22 ];v9:0-5,0a,0b,0c,0d,0e,0f; ",
        };
        String signs = "vs:-~^,=>[];  0123456789abjkx\u00ff";
        Random random = new Random(7);
        for (int i = 0; i < 20_000; i++) {
            StringBuilder text = new StringBuilder(texts[random.nextInt(texts.length)]);
            int at = random.nextInt(text.length());
            char sign = signs.charAt(random.nextInt(signs.length()));
            switch (random.nextInt(4)) {
                case 0 -> text.setCharAt(at, sign);
                case 1 -> text.insert(at, sign);
                case 2 -> text.deleteCharAt(at);
                default -> text.setLength(at);
            }
            if (isPlain(text.toString())) {
                againstTheGrammar(text.toString());
            }
        }
    }

    private static boolean isPlain(String text) {
        String dense = text.replace(" ", "");
        return !Pattern.compile("v([1-9]).*v\\1|s([a-j])=\\2|:[1-9]-").matcher(dense).find();
    }

    private static void againstTheGrammar(String text) {
        CrewRules x = new CrewRules();
        Check.tape(x, text);
        boolean thrown = Check.thrownBy(x::read) instanceof IllegalStateException;
        int place = placeByGrammar(text);
        Check.due("read() throws for '" + text + "'", thrown ? 1 : 0, place == -1 ? 0 : 1);
        Check.due("place() of '" + text + "'", x.place(), place);
    }

    private static int placeByGrammar(String text) {
        if (TEXT.matcher(text).matches()) {
            return -1;
        }
        for (int n = 1; n <= text.length(); n++) {
            Matcher begin = TEXT.matcher(text.substring(0, n));
            if (!begin.matches() && !begin.hitEnd()) {
                return n - 1;
            }
        }
        return text.length();
    }
}
