import java.lang.reflect.Field;
import java.lang.reflect.Method;
import java.lang.reflect.Modifier;
import java.nio.file.Files;
import java.nio.file.Path;
import java.util.ArrayList;
import java.util.HashSet;
import java.util.List;
import java.util.Set;
import java.util.TreeSet;
import java.util.regex.Matcher;
import java.util.regex.Pattern;

/** The public face, and those rules of LANGUAGE.md that can be seen in the text or in the compiled class. */
public final class LanguageTest {
  private static final String[] FACE = {
      "int feed(int)", "int lane()", "int player(int,int)", "int touch(int,int)", "int wind(int)", "int move(int,int)",
      "int give(int)", "int skill(int,int)", "int error(int,int,int)", "int keep(int,int,int)",
      "long again(int,int,int,int)", "int best()", "long on(int,int)", "int stand(int,int)", "int grows(int,int,int)",
      "int worth()", "int who(int)", "int winds(int,int,int,int)", "int longest(int,int)", "int row(int)",
      "int judge()", "int seeds(int,int)", "int image()", "int restore()", "int count(int)"};
  private static final String[] WORDS = {"import", "package", "throw", "throws", "try", "catch", "finally",
      "synchronized", "assert", "double", "float", "Object", "System", "hashCode", "toString", "volatile", "native"};
  private static final int MOST_LINES = 60;

  private static int wrong = 0;

  private static void due(boolean holds, String rule) {
    if (!holds) { wrong++; System.out.println(rule); }
  }

  private static String told(Method m) {
    StringBuilder s = new StringBuilder(m.getReturnType().getName()).append(' ').append(m.getName()).append('(');
    for (int i = 0; i < m.getParameterCount(); i++) s.append(i == 0 ? "" : ",").append(m.getParameterTypes()[i].getName());
    return s.append(')').toString();
  }

  private static void face() {
    Class<?> c = KeptUpByFeet.class;
    due(Modifier.isPublic(c.getModifiers()) && Modifier.isFinal(c.getModifiers()), "the class is public and final");
    due(c.getDeclaredConstructors().length == 1 && c.getConstructors().length == 1, "one constructor, public");
    Set<String> open = new TreeSet<>();
    for (Method m : c.getDeclaredMethods()) {
      if (Modifier.isPublic(m.getModifiers())) open.add(told(m));
      else due(Modifier.isPrivate(m.getModifiers()), "neither public nor private: " + m.getName());
    }
    due(open.equals(new TreeSet<>(List.of(FACE))), "the public face is " + open);
    for (Field f : c.getDeclaredFields()) due(Modifier.isPrivate(f.getModifiers()), "a field that is not private: " + f.getName());
  }

  private static void members() {
    Set<String> names = new HashSet<>();
    for (String f : FACE) names.add(f.substring(f.indexOf(' ') + 1, f.indexOf('(')));
    List<Class<?>> classes = new ArrayList<>(List.of(KeptUpByFeet.class.getDeclaredClasses()));
    for (Class<?> c : classes) {
      due(Modifier.isStatic(c.getModifiers()) && !Modifier.isPublic(c.getModifiers()), "not a static class of its own: " + c);
      for (Method m : c.getDeclaredMethods()) due(!names.contains(m.getName()), "a name of the face: " + m);
    }
    classes.add(KeptUpByFeet.class);
    due(classes.size() <= 12, "more than twelve classes");
    for (Class<?> c : classes) {
      int fields = 0;
      for (Field f : c.getDeclaredFields()) {
        if (!Modifier.isStatic(f.getModifiers())) fields++;
        else due(Modifier.isFinal(f.getModifiers()), "a static field that is not final: " + f);
      }
      due(fields <= 20, "more than twenty fields: " + c);
      for (Method m : c.getDeclaredMethods()) {
        due(m.getParameterCount() <= 7, "more than seven parameters: " + m);
        due(!Modifier.isPrivate(m.getModifiers()) || !names.contains(m.getName()), "a private method named as a public one: " + m);
      }
    }
  }

  private static void text() throws Exception {
    String source = Files.readString(Path.of("src/main/java/KeptUpByFeet.java"));
    for (int i = 0; i < source.length(); i++) due(source.charAt(i) < 128, "a sign above 127 at " + i);
    String bare = source.replaceAll("(?s)/\\*.*?\\*/", "").replaceAll("//[^\n]*", "").replaceAll("\"[^\"\n]*\"", "\"\"");
    for (String word : WORDS) due(!Pattern.compile("\\b" + word + "\\b").matcher(bare).find(), "the word " + word);
    for (String sign : new String[] {"->", "::", "@", "Exact", "static {", "instanceof", "while (true)", "for (;;)"})
      due(!bare.contains(sign), "the sign " + sign);
    methods(bare);
  }

  private static void methods(String bare) {
    Matcher m = Pattern.compile("\n( +)(public|private)[^;={]*\\([^;{]*\\) \\{\n").matcher(bare);
    int found = 0;
    while (m.find()) {
      found++;
      int end = bare.indexOf("\n" + m.group(1) + "}", m.end() - 1);
      due(end > 0, "no end of " + m.group().trim());
      long lines = bare.substring(m.end(), Math.max(m.end(), end)).lines().count();
      due(lines <= MOST_LINES, "a long method: " + m.group().trim());
    }
    due(found > FACE.length, "the methods are not seen in the text");
  }

  public static void main(String[] args) throws Exception {
    face();
    members();
    text();
    System.out.println(wrong == 0 ? "the language is kept" : wrong + " rules are not kept");
    if (wrong != 0) System.exit(1);
  }
}
