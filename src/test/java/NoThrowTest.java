import java.lang.reflect.InvocationTargetException;
import java.lang.reflect.Method;
import java.lang.reflect.Modifier;
import java.util.ArrayList;
import java.util.Comparator;
import java.util.List;
import java.util.Random;

/** No call may ever throw, for any arguments in any state: seeded calls of the whole face, some far behind the 512th. */
public final class NoThrowTest {
  private static final String STATEMENTS = "y3;y12;w+3;w-3;p0,11;p2,39;p11,20;t001;t109;t299;t309;t499;t589;b0;b4;";
  private static final int[] EDGES = {Integer.MIN_VALUE, Integer.MIN_VALUE + 1, -4000, -10, -9, -1, 100, 255, 999, 1000,
      Integer.MAX_VALUE - 1, Integer.MAX_VALUE};
  private static int wrong = 0;

  private static List<Method> face() {
    List<Method> all = new ArrayList<>();
    for (Method m : KeptUpByFeet.class.getDeclaredMethods()) if (Modifier.isPublic(m.getModifiers())) all.add(m);
    // Reflection tells them in no order; the seeded runs need one.
    all.sort(Comparator.comparing(Method::getName));
    return all;
  }

  private static int number(Random random) {
    int dice = random.nextInt(20);
    if (dice == 0) return EDGES[random.nextInt(EDGES.length)];
    if (dice == 1) return random.nextInt();
    return dice < 12 ? random.nextInt(3) : random.nextInt(24) - 4;
  }

  private static void feedSome(KeptUpByFeet x, Random random) {
    String[] statements = STATEMENTS.split("(?<=;)");
    for (int i = random.nextInt(9); i >= 0; i--) {
      String s = statements[random.nextInt(statements.length)];
      for (int k = 0; k < s.length(); k++) x.feed(s.charAt(k));
    }
    x.lane();
  }

  private static void call(KeptUpByFeet x, Method m, Random random, String run) throws IllegalAccessException {
    Object[] numbers = new Object[m.getParameterCount()];
    for (int i = 0; i < numbers.length; i++) numbers[i] = number(random);
    try {
      m.invoke(x, numbers);
    } catch (InvocationTargetException e) {
      wrong++;
      System.out.println(run + ": " + m.getName() + java.util.Arrays.toString(numbers) + " threw " + e.getCause());
    }
  }

  private static void run(int seed, int calls, List<Method> face) throws IllegalAccessException {
    Random random = new Random(seed);
    KeptUpByFeet x = new KeptUpByFeet();
    for (int i = 0; i < calls; i++) {
      if (random.nextInt(60) == 0) feedSome(x, random);
      call(x, face.get(random.nextInt(face.size())), random, "run " + seed);
    }
  }

  public static void main(String[] args) throws Exception {
    List<Method> face = face();
    for (int seed = 0; seed < 1000; seed++) run(seed, 512, face);
    for (int seed = 1000; seed < 1010; seed++) run(seed, 20000, face);
    System.out.println(wrong == 0 ? "no call threw" : wrong + " calls threw");
    if (wrong != 0) System.exit(1);
  }
}
