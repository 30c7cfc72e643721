import java.io.IOException;
import java.lang.reflect.Constructor;
import java.lang.reflect.Field;
import java.lang.reflect.Method;
import java.lang.reflect.Modifier;
import java.nio.file.Files;
import java.nio.file.Path;
import java.util.Set;
import java.util.TreeSet;
import java.util.regex.Matcher;
import java.util.regex.Pattern;

/** The public face, and those rules of LANGUAGE.md that can be seen without reading the code. */
public final class FaceTest {
  private static final String[] FACE = {
    "int set(int,int,int)", "int man(int,int,int)", "int told(int,int)", "int grips(int,int)", "int hands(int,int)",
    "int feed(int)", "int text()", "int force(int)",
    "int out(int)", "int into(int,int)", "int swap(int,int)", "int hour()", "int wall(int)", "int sneeze(int,int,int)",
    "int run(int,int)", "int opens()",
    "int order(int)", "int let(int)", "int letsIn(int,int)", "int swaps()", "long mean(int)",
    "int tells(int,int,int)", "int film(int)", "int drawn(int,int)", "long chance(int,int,int,int)", "int image()",
    "int back()", "int count(int)",
    "int sheet(int,int,int)", "int cell(int,int,int)", "int copy(int,int,int,int,int)", "int chain(int,int,int,int)",
    "int taken(int,int)"};
  private static final String[] BARRED = {
    "\\bthrow\\b", "\\bthrows\\b", "\\btry\\b", "\\bcatch\\b", "\\bsynchronized\\b", "\\bassert\\b", "->", "::",
    "\\bimport\\b", "\\bpackage\\b", "Exact\\b", "\\bwhile\\s*\\(\\s*true", "for\\s*\\(\\s*;\\s*;"};

  public static void main(String[] args) throws IOException {
    Checks checks = new Checks();
    constants(checks);
    members(checks);
    source(checks);
    checks.end("FaceTest");
  }

  private static void constants(Checks checks) {
    checks.due("NONE", WallsOfPrisoners.NONE, -1);
    checks.due("BAD", WallsOfPrisoners.BAD, -2);
    checks.due("STATE", WallsOfPrisoners.STATE, -3);
    checks.due("FULL", WallsOfPrisoners.FULL, -4);
    checks.due("NO", WallsOfPrisoners.NO, -4611686018427387904L);
  }

  private static void members(Checks checks) {
    Class<?> face = WallsOfPrisoners.class;
    checks.holds("public and final", Modifier.isPublic(face.getModifiers()) && Modifier.isFinal(face.getModifiers()));
    Set<String> open = new TreeSet<>();
    Set<String> names = new TreeSet<>();
    for (Method m : face.getDeclaredMethods()) {
      if (Modifier.isPrivate(m.getModifiers())) continue;
      StringBuilder told = new StringBuilder(m.getReturnType() + " " + m.getName() + "(");
      for (Class<?> type : m.getParameterTypes()) told.append(told.charAt(told.length() - 1) == '(' ? "" : ",").append(type);
      open.add(told.append(")").toString());
      names.add(m.getName());
      checks.holds(m.getName() + " is public, of an object", m.getModifiers() == Modifier.PUBLIC);
    }
    checks.holds("methods are those of the document: " + open, open.equals(Set.of(FACE)));
    for (Constructor<?> c : face.getDeclaredConstructors()) {
      checks.holds("constructor", Modifier.isPublic(c.getModifiers()) && c.getParameterCount() == 0);
    }
    Set<String> fields = new TreeSet<>();
    for (Field f : face.getDeclaredFields()) {
      if (!Modifier.isPrivate(f.getModifiers())) fields.add(f.getType() + " " + f.getName());
      if (Modifier.isStatic(f.getModifiers())) checks.holds(f.getName() + " is final", Modifier.isFinal(f.getModifiers()));
    }
    checks.holds("fields: " + fields, fields.equals(Set.of("int NONE", "int BAD", "int STATE", "int FULL", "long NO")));
    for (Class<?> inside : face.getDeclaredClasses()) {
      checks.holds(inside.getName() + " is static", Modifier.isStatic(inside.getModifiers()));
      for (Method m : inside.getDeclaredMethods()) {
        checks.holds(m + " bears no public one's name", !names.contains(m.getName()));
      }
    }
    for (Method m : face.getDeclaredMethods()) {
      if (Modifier.isPrivate(m.getModifiers())) checks.holds(m + " bears no public one's name", !names.contains(m.getName()));
    }
  }

  private static void source(Checks checks) throws IOException {
    String code = Files.readString(Path.of("src/main/java/WallsOfPrisoners.java"))
        .replaceAll("(?s)/\\*.*?\\*/", "").replaceAll("//[^\n]*", "");
    for (String barred : BARRED) {
      Matcher found = Pattern.compile(barred).matcher(code);
      checks.holds("no " + barred + " in the source", !found.find());
    }
  }
}
