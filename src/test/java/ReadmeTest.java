import java.io.IOException;
import java.lang.reflect.InvocationTargetException;
import java.lang.reflect.Method;
import java.lang.reflect.Modifier;
import java.nio.file.Files;
import java.nio.file.Path;
import java.util.List;
import java.util.regex.Matcher;
import java.util.regex.Pattern;

/** README.md tells the truth: its examples answer what stands behind them, and each call is named. */
public final class ReadmeTest {
  private static final Checks C = new Checks();
  private static final Path PAGE = Path.of("README.md");
  private static final int EXAMPLES = 35;
  private static final String NEW_OBJECT = "OpinionReactor reactor = new OpinionReactor();";

  // A call, and behind it its answer, which may go on with a colon and what it means.
  private static final Pattern EXAMPLE =
      Pattern.compile("(?:reactor\\.(\\w+)\\((.*)\\)|run\\(reactor, \"(.*)\"\\)); *// ([^:]+)(?:: .*)?");

  private OpinionReactor reactor = null;
  private int examples = 0;

  public static void main(String[] args) throws IOException {
    String page = Files.readString(PAGE);
    new ReadmeTest().examples(page);
    for (Method method : OpinionReactor.class.getDeclaredMethods()) {
      if (Modifier.isPublic(method.getModifiers())) {
        C.due(method.getName() + " is named", page.contains("`" + method.getName() + "`"), true);
      }
    }
    C.end();
  }

  private void examples(String page) {
    for (String line : page.lines().toList()) {
      Matcher example = EXAMPLE.matcher(line);
      if (line.equals(NEW_OBJECT)) {
        reactor = new OpinionReactor();
      } else if (example.matches()) {
        examples++;
        C.due(line, answer(example), example.group(4));
      }
    }
    C.due("number of examples", examples, EXAMPLES);
  }

  private String answer(Matcher example) {
    String text = example.group(3);
    Object answer = Checks.outcome(
        () -> text != null ? Checks.run(reactor, text) : called(example.group(1), example.group(2)));
    return answer instanceof Character ? "'" + answer + "'" : answer.toString();
  }

  private Object called(String name, String values) {
    List<Object> parameters = values.isEmpty() ? List.of()
        : Pattern.compile(", ").splitAsStream(values).map(ReadmeTest::parameter).toList();
    for (Method method : OpinionReactor.class.getDeclaredMethods()) {
      if (method.getName().equals(name)) {
        return invoked(method, parameters.toArray());
      }
    }
    return "no such call";
  }

  private static Object parameter(String word) {
    if (word.startsWith("'")) {
      return word.charAt(1);
    }
    return word.equals("true") || word.equals("false") ? (Object) Boolean.valueOf(word) : Integer.valueOf(word);
  }

  private Object invoked(Method method, Object[] parameters) {
    try {
      return method.invoke(reactor, parameters);
    } catch (InvocationTargetException e) {
      if (e.getCause() instanceof RuntimeException thrown) {
        throw thrown;
      }
      throw new IllegalStateException(e);
    } catch (IllegalAccessException e) {
      throw new IllegalStateException(e);
    }
  }
}
