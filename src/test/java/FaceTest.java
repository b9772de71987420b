import java.io.IOException;
import java.lang.reflect.Constructor;
import java.lang.reflect.Field;
import java.lang.reflect.Method;
import java.lang.reflect.Modifier;
import java.nio.file.Files;
import java.nio.file.Path;
import java.util.Arrays;
import java.util.List;
import java.util.Set;
import java.util.TreeSet;
import java.util.stream.Collectors;

/** The face of the class is the document's, and its file keeps to those rules of LANGUAGE.md that words can tell. */
public final class FaceTest {
  private static final Checks C = new Checks();
  private static final Path DOCUMENT = Path.of("../shared/DOC.md");
  private static final Path SOURCE = Path.of("src/main/java/OpinionReactor.java");

  public static void main(String[] args) throws IOException {
    Class<?> type = OpinionReactor.class;
    C.due("modifiers", Modifier.toString(type.getModifiers()), "public final");
    C.due("superclass", type.getSuperclass(), Object.class);
    C.due("interfaces", type.getInterfaces().length, 0);
    C.due("methods", heads(type), headsOfDocument());
    C.due("constructors", Arrays.stream(type.getDeclaredConstructors()).map(Constructor::toString).toList(),
        List.of("public OpinionReactor()"));
    for (Field field : type.getDeclaredFields()) {
      C.due("privacy of " + field, Modifier.isPrivate(field.getModifiers()), true);
    }
    for (Method method : type.getDeclaredMethods()) {
      boolean isPublic = Modifier.isPublic(method.getModifiers());
      C.due("privacy of " + method, isPublic || Modifier.isPrivate(method.getModifiers()), true);
    }
    C.due("private methods with a public name", sharedNames(type), Set.of());
    C.due("number of classes", type.getDeclaredClasses().length <= 11, true);
    for (Class<?> inner : type.getDeclaredClasses()) {
      C.due("a class inside is static: " + inner, Modifier.isStatic(inner.getModifiers()), true);
      C.due("a class inside is not public: " + inner, Modifier.isPublic(inner.getModifiers()), false);
      C.due("fields of " + inner, inner.getDeclaredFields().length <= 20, true);
    }
    words();
    C.end();
  }

  private static Set<String> heads(Class<?> type) {
    Set<String> heads = new TreeSet<>();
    for (Method method : type.getDeclaredMethods()) {
      if (Modifier.isPublic(method.getModifiers())) {
        heads.add(Modifier.toString(method.getModifiers()) + " " + method.getReturnType() + " " + method.getName()
            + "(" + names(method.getParameterTypes()) + ") throws " + names(method.getExceptionTypes()));
      }
    }
    return heads;
  }

  private static String names(Class<?>[] types) {
    return Arrays.stream(types).map(Class::getSimpleName).collect(Collectors.joining(", "));
  }

  private static Set<String> headsOfDocument() throws IOException {
    Set<String> heads = new TreeSet<>();
    for (String line : Files.readAllLines(DOCUMENT)) {
      if (line.startsWith("    public ") && !line.contains("OpinionReactor(")) {
        String head = line.trim().replace(";", "");
        int open = head.indexOf('(');
        int close = head.indexOf(')');
        String parameters = head.substring(open, close).replaceAll(" \\w+(,|$)", "$1");
        String thrown = head.substring(close + 1).replace(" throws ", "");
        heads.add(head.substring(0, open) + parameters + ") throws " + thrown);
      }
    }
    C.due("number of methods in the document", heads.size(), 53);
    return heads;
  }

  private static Set<String> sharedNames(Class<?> type) {
    Set<String> faceNames = new TreeSet<>();
    for (Method method : type.getDeclaredMethods()) {
      if (Modifier.isPublic(method.getModifiers())) {
        faceNames.add(method.getName());
      }
    }
    Set<String> otherNames = new TreeSet<>();
    for (Method method : type.getDeclaredMethods()) {
      if (!Modifier.isPublic(method.getModifiers())) {
        otherNames.add(method.getName());
      }
    }
    for (Class<?> inner : type.getDeclaredClasses()) {
      for (Method method : inner.getDeclaredMethods()) {
        otherNames.add(method.getName());
      }
    }
    otherNames.retainAll(faceNames);
    return otherNames;
  }

  private static void words() throws IOException {
    String source = Files.readString(SOURCE).replaceAll("//.*", "").replaceAll("(?s)/\\*.*?\\*/", "");
    for (String word : new String[] {
        "->", "::", "\\bcatch\\b", "\\btry\\b", "\\bfinally\\b", "\\bassert\\b", "\\bsynchronized\\b", "\\bpackage\\b",
        "\\bpublic static\\b", "\\bstatic \\{", "Exact\\(", "\\bSystem\\.(?!arraycopy)", "\\bFloat\\b", "\\bDouble\\b",
        "\\bLong\\b", "\\bCharacter\\b", "\\bThread\\b", "\\bRandom\\b", "\\bwhile\\b", "\\bvar\\b", "\\bprotected\\b",
        "static final (float|double)", "\\.equals\\(", "\\.hashCode\\(", "\\.toString\\("}) {
      C.due("a forbidden word: " + word, java.util.regex.Pattern.compile(word).matcher(source).find(), false);
    }
    List<String> imports = source.lines().filter(line -> line.startsWith("import")).toList();
    C.due("imports", imports, List.of("import java.util.NoSuchElementException;"));
    C.due("signs of the source", source.chars().allMatch(sign -> sign < 127), true);
  }
}
