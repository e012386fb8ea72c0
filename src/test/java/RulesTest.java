import java.io.IOException;
import java.nio.charset.StandardCharsets;
import java.nio.file.Files;
import java.nio.file.Path;
import java.util.List;
import java.util.regex.Matcher;
import java.util.regex.Pattern;

/** What a look at the text can tell of ../shared/LANGUAGE.md: words that the class may not use. */
public final class RulesTest {
    private static final Path SOURCE = Path.of("src/main/java/ClickBench.java");
    private static final List<String> RULED_OUT = List.of(
            "\\bimport\\b", "\\bpackage\\b", "->", "::", "\\bcatch\\b", "\\btry\\b", "\\bfinally\\b", "\\bassert\\b",
            "\\bsynchronized\\b", "\\bvar\\b", "Exact\\b", "\\bThread\\b", "\\bRandom\\b", "\\bhashCode\\b",
            "\\btoString\\b", "\\bgetMessage\\b", "\\bprotected\\b", "currentTimeMillis", "nanoTime",
            "\\bMath\\.(?!min|max|abs)\\w+", "\\bSystem\\.(?!arraycopy)\\w+", "\" \\+|\\+ \"");

    public static void main(String[] args) throws IOException {
        String source = Files.readString(SOURCE, StandardCharsets.US_ASCII);
        String code = source.replaceAll("(?s)/\\*.*?\\*/", "").replaceAll("//[^\\n]*", "");
        for (String ruledOut : RULED_OUT) {
            Matcher matcher = Pattern.compile(ruledOut).matcher(code);
            Check.due("the source has no " + ruledOut, "", matcher.find() ? matcher.group() : "");
        }
        Matcher thrown = Pattern.compile("throw new (\\w+)").matcher(code);
        while (thrown.find()) {
            boolean isPromised = List.of(Check.INDEX, Check.ARGUMENT, Check.STATE).contains(thrown.group(1));
            Check.due("throws " + thrown.group(1), 1, isPromised ? 1 : 0);
        }
        Check.finish();
    }
}
