import java.nio.file.Files;
import java.nio.file.Path;

/** The example in README.md: each of its answers is told there as the class gives it. */
public final class ReadmeTest {
    private static String readme;

    public static void main(String[] args) throws Exception {
        readme = Files.readString(Path.of("README.md"));
        CrewRules x = new CrewRules();
        String text = "v1:1-4~8^12,1d,=1c>4; sd=c[22-5];";
        stands("\"" + text + "\"");
        for (char c : text.toCharArray()) {
            x.sign(c, 1);
        }
        told("x.read();", x.read());
        told("x.rule(1, 2);", x.rule(1, 2));

        stands("x.person(7, 5, 2);");
        x.person(7, 5, 2);
        stands("x.skill(7, 2, 500);");
        x.skill(7, 2, 500);
        stands("x.duty(7, 20, 10);");
        x.duty(7, 20, 10);
        told("x.join(0, 7);", x.join(0, 7));

        told("x.counts(0);", x.counts(0));
        told("x.leader(0);", x.leader(0));
        told("x.having(0, 3, 0, 22);", x.having(0, 3, 0, 22));
        told("x.verdict(0, 22);", x.verdict(0, 22));
        told("x.verdict(0, 21);", x.verdict(0, 21));
        told("x.verdict(0, 33);", x.verdict(0, 33));
        told("x.never(21, 0);", x.never(21, 0));
        told("x.never(22, 0);", x.never(22, 0));

        stands("x.sign('v', 1);");
        x.sign('v', 1);
        stands("throws IllegalStateException; the rules stay as they are");
        Check.state("x.read();", x::read);
        Check.due("the rules stay", x.rule(1, 2), 8);
        told("x.place();", x.place());
        Check.end();
    }

    private static void stands(String words) {
        Check.due("README.md has " + words, readme.contains(words) ? 1 : 0, 1);
    }

    /** The call's line in README.md tells this answer first in its remark. */
    private static void told(String call, int answer) {
        boolean found = readme.lines().anyMatch(line ->
            line.startsWith(call) && line.substring(call.length()).strip().matches("// " + answer + "(:.*)?"));
        Check.due("README.md tells " + answer + " for " + call, found ? 1 : 0, 1);
    }
}
