import java.lang.reflect.Constructor;
import java.lang.reflect.Field;
import java.lang.reflect.Method;
import java.lang.reflect.Modifier;
import java.nio.file.Files;
import java.nio.file.Path;
import java.util.Arrays;
import java.util.List;
import java.util.Set;
import java.util.TreeSet;
import java.util.stream.Collectors;

/** The face of the class, and those rules of LANGUAGE.md that can be seen by looking at it. Runs at the project's root. */
public final class RulesTest {
  private static final String FACE = "thing(int,int,int)int reaper(int)int barn(int)int cut(int,int,int)int last(int,int)int use(int,int)int "
      + "move(int,int)boolean sell(int)int hour(int)int decades(int,int)int feed(int,int,int,int,int)int end(int)int text()int "
      + "fault(int)int by(int)boolean played(int)int undo()int of(int,int)int ofReaper(int,int)int bale(int,int)int ofBarn(int,int)int "
      + "foretold(int,int)int stored(int,int)int most(int,int,int,int)int need(int,int)int unmet(int)int enough(int,int)int "
      + "over(int,int,int,int)int whose(int,int,int)int at(int,int,int)int leave(int,int,int,int)int packed(int,int)int "
      + "when(int,int,int)int hail(int,int,boolean)int image()int back()int about(int)int";
  private static final String[] NOT_HERE = {"\\bthrow\\b", "\\btry\\b", "\\bcatch\\b", "\\bsynchronized\\b", "\\bassert\\b", "\\bimport\\b",
      "\\bpackage\\b", "->", "::", "\\bstatic \\{", "\" \\+", "\\+ \"", "\\binstanceof\\b", "\\bnull\\.", "\\bObject\\b", "Exact\\b", "@"};

  private static int wrong = 0;

  private static void due(boolean so, String what) {
    if (!so) {
      wrong++;
      System.out.println("RulesTest: " + what);
    }
  }

  public static void main(String[] args) throws Exception {
    face();
    for (Class<?> c : classes()) members(c);
    source(Files.readAllLines(Path.of("src/main/java/BaledShade.java")));
    System.out.println(wrong == 0 ? "RulesTest: all rules that it looks at are kept" : "RulesTest: " + wrong + " faults");
    if (wrong != 0) System.exit(1);
  }

  private static List<Class<?>> classes() {
    List<Class<?>> all = new java.util.ArrayList<>(Arrays.asList(BaledShade.class.getDeclaredClasses()));
    all.add(BaledShade.class);
    return all;
  }

  private static void face() throws Exception {
    Class<?> c = BaledShade.class;
    due(Modifier.isPublic(c.getModifiers()) && Modifier.isFinal(c.getModifiers()), "the class is public and final");
    due(c.getPackageName().isEmpty(), "it has no package");
    due(c.getSuperclass() == Object.class && c.getInterfaces().length == 0, "it extends nothing");
    Constructor<?>[] made = c.getDeclaredConstructors();
    due(made.length == 1 && Modifier.isPublic(made[0].getModifiers()) && made[0].getParameterCount() == 0, "one constructor");
    Set<String> got = new TreeSet<>();
    for (Method m : c.getDeclaredMethods()) {
      if (Modifier.isPrivate(m.getModifiers())) continue;
      due(Modifier.isPublic(m.getModifiers()) && !Modifier.isStatic(m.getModifiers()), m + " is no member of the face");
      got.add(m.getName() + Arrays.stream(m.getParameterTypes()).map(Class::getName).collect(Collectors.joining(",", "(", ")"))
          + m.getReturnType().getName());
    }
    due(got.equals(new TreeSet<>(List.of(FACE.split(" ")))), "the methods are " + got);
    for (Field f : c.getDeclaredFields()) {
      if (Modifier.isPrivate(f.getModifiers())) continue;
      due(f.getName().equals("NONE") && f.getType() == int.class && f.getInt(null) == -1, f + " is no constant of the face");
    }
  }

  private static void members(Class<?> c) {
    Set<String> face = Arrays.stream(FACE.split(" ")).map(f -> f.substring(0, f.indexOf('('))).collect(Collectors.toSet());
    due(c == BaledShade.class || Modifier.isStatic(c.getModifiers()) && Modifier.isPrivate(c.getModifiers()), c + " is private and static");
    int fields = 0;
    for (Field f : c.getDeclaredFields()) {
      if (!Modifier.isStatic(f.getModifiers())) {
        fields++;
        continue;
      }
      Class<?> t = f.getType();
      boolean plain = t == int.class || t == long.class || t == boolean.class || t == char.class || t == String.class;
      due(Modifier.isFinal(f.getModifiers()), f + " is final");
      due(plain || t == int[].class || t == long[].class || t == char[].class || t == byte[].class, f + " is a constant");
    }
    due(fields <= 20, c + " has " + fields + " fields");
    for (Method m : c.getDeclaredMethods()) {
      due(m.getParameterCount() <= 7, m + " has too many parameters");
      due(!m.isSynthetic(), m + " is made by the compiler");
      due(Modifier.isPublic(m.getModifiers()) || !face.contains(m.getName()), m + " bears the name of a public one");
    }
    due(classes().size() <= 12, "twelve classes at most");
  }

  private static void source(List<String> lines) {
    String start = null;
    int from = 0;
    for (int i = 0; i < lines.size(); i++) {
      String line = lines.get(i);
      String at = " in line " + (i + 1) + ": " + line.trim();
      due(line.chars().allMatch(c -> c >= 32 && c < 127), "a strange sign" + at);
      String code = line.trim().startsWith("/**") || line.trim().startsWith("//") ? "" : line;
      for (String no : NOT_HERE) due(!java.util.regex.Pattern.compile(no).matcher(code).find(), no + at);
      if (code.matches("(  )?  [a-zA-Z].*\\) \\{") && !code.matches("\\s+(if|for|while|switch)\\b.*")) {
        start = code.trim();
        from = i;
      }
      if (code.matches("(  )?  \\}") && start != null) {
        due(i - from <= 60, "a method of " + (i - from) + " lines: " + start);
        start = null;
      }
      boolean once = start == null || start.startsWith("public BaledShade()") || start.startsWith("static int[] firstRow()");
      due(!code.contains("new ") || once, "an object is made" + at);
    }
  }
}
