import java.math.BigInteger;

/** Each sentence of the document that names an edge: the last value that is taken, the first that is not, empty, full. */
public final class EdgesTest {
  private static final int LEAST = Integer.MIN_VALUE;
  private static final int MOST = Integer.MAX_VALUE;
  private static int wrong = 0;
  private static String sentence = "";

  private static void sentence(String words) { sentence = words; }

  private static void due(String call, long got, long want) {
    if (got != want) { wrong++; System.out.println("\"" + sentence + "\": " + call + " answered " + got + ", due is " + want); }
  }

  private static int tell(KeptUpByFeet x, String letters) {
    for (int i = 0; i < letters.length(); i++) due("feed " + letters + " at " + i, x.feed(letters.charAt(i)), i + 1);
    return x.lane();
  }

  private static KeptUpByFeet told(String letters) {
    KeptUpByFeet x = new KeptUpByFeet();
    int statements = 0;
    for (int i = 0; i < letters.length(); i++) if (letters.charAt(i) == ';') statements++;
    due("lane of " + letters, tell(x, letters), statements);
    return x;
  }

  /** A lane told in two parts, where one of 80 letters is too short. */
  private static KeptUpByFeet told(String first, String second) {
    KeptUpByFeet x = told(first);
    due("lane of " + second, Math.min(0, tell(x, second)), 0);
    return x;
  }

  private static void laneOf(String letters, int want) { due("lane of " + letters, tell(new KeptUpByFeet(), letters), want); }

  private static void laneBehind(String first, String letters, int want) {
    due("lane of " + letters + " behind " + first, tell(told(first), letters), want);
  }

  private static void all(KeptUpByFeet x, int touch, int what, int... want) {
    for (int t = 0; t < want.length; t++) due("touch(" + (touch + t) + ", " + what + ")", x.touch(touch + t, what), want[t]);
  }

  private static void odds(KeptUpByFeet x, int touch, int one, int other, long above, long below) {
    String call = "again(" + touch + ", " + one + ", " + other;
    due(call + ", 0)", x.again(touch, one, other, 0), above);
    due(call + ", 1)", x.again(touch, one, other, 1), below);
  }

  private static void oddsOn(KeptUpByFeet x, int n, long above, long below) {
    due("on(" + n + ", 0)", x.on(n, 0), above);
    due("on(" + n + ", 1)", x.on(n, 1), below);
  }

  private static String times(String part, int n) { return part.repeat(n); }

  // ---- Terms: the ranges

  private static void yards() {
    sentence("A LANE has YARDS 0 .. (3 .. 12; 12 at first)");
    due("count(0)", new KeptUpByFeet().count(0), 12);
    for (int n = 0; n <= 99; n++) {
      KeptUpByFeet x = told("y7;");
      boolean taken = n >= 3 && n <= 12;
      due("lane of y" + n, tell(x, "y" + n + ";"), taken ? 1 : -2000);
      due("count(0) behind y" + n, x.count(0), taken ? n : 7);
    }
    laneOf("y02;", -2000);
    laneOf("y03;", 1);
    laneOf("y00;", -2000);
  }

  private static void winds() {
    sentence("a WIND (-3 .. 3, along the LANE; 0 at first)");
    due("count(5)", new KeptUpByFeet().count(5), 3);
    for (int v = -9; v <= 9; v++) {
      KeptUpByFeet x = told("w-1;");
      boolean taken = v >= -3 && v <= 3;
      String told = v < 0 ? "w" + v + ";" : "w+" + v + ";";
      due("lane of " + told, tell(x, told), taken ? 1 : -2000);
      due("count(5) behind " + told, x.count(5), taken ? v + 3 : 2);
    }
    laneOf("w-0;", 1);
    KeptUpByFeet x = told("w-1;");
    due("wind(-4)", x.wind(-4), -4);
    due("wind(4)", x.wind(4), -6);
    due("wind(least)", x.wind(LEAST), -4);
    due("wind(most)", x.wind(MOST), -6);
    due("wind(-3)", x.wind(-3), 2);
    due("wind(3)", x.wind(3), 0);
    due("wind(0)", x.wind(0), 6);
    due("count(5)", x.count(5), 3);
  }

  private static void playersAsTheyCome() {
    sentence("PLAYERS 0 .. 4 as they come");
    KeptUpByFeet x = new KeptUpByFeet();
    due("count(1)", x.count(1), 0);
    due("player(0, 0)", x.player(0, 0), -1);
    for (int p = 0; p <= 4; p++) {
      due("PLAYER " + p, tell(x, "p" + p + ",1" + p + ";"), 1);
      due("count(1)", x.count(1), p + 1);
      due("YARD of " + p, x.player(p, 0), p);
      due("SKILL of " + p, x.player(p, 2), p);
      due("the next", x.player(p + 1, 0), -1);
    }
    due("a sixth", tell(x, "p5,15;"), -2000);
    due("count(1)", x.count(1), 5);
    due("player(5, 0)", x.player(5, 0), -1);
    laneOf(times("p0,11;", 5), 5);
    laneOf(times("p0,11;", 6), -2030);
    laneBehind(times("p0,11;", 4), times("p0,11;", 1), 1);
    laneBehind(times("p0,11;", 4), times("p0,11;", 2), -2006);
  }

  private static void touchesAsTheyCome() {
    sentence("TOUCHES 0 .. 5 as they come");
    KeptUpByFeet x = new KeptUpByFeet();
    due("count(2)", x.count(2), 0);
    due("touch(0, 0)", x.touch(0, 0), -1);
    for (int t = 0; t <= 5; t++) {
      due("TOUCH " + t, tell(x, "t" + t + (9 - t) + (t + 1) + ";"), 1);
      due("count(2)", x.count(2), t + 1);
      due("KIND of " + t, x.touch(t, 0), t);
      due("FIGURE of " + t, x.touch(t, 1), 9 - t);
      due("HEIGHT of " + t, x.touch(t, 2), t + 1);
      due("the next", x.touch(t + 1, 0), -1);
    }
    due("a seventh", tell(x, "t001;"), -2000);
    due("count(2)", x.count(2), 6);
    due("touch(6, 0)", x.touch(6, 0), -1);
    laneOf(times("t001;", 6), 6);
    laneOf(times("t001;", 7), -2030);
    laneBehind(times("t001;", 5), times("t001;", 1), 1);
    laneBehind(times("t001;", 5), times("t001;", 2), -2005);
  }

  private static void yardOfPlayer() {
    sentence("each in a YARD; no such YARD");
    for (int yards = 3; yards <= 12; yards++) {
      String first = "y" + yards + ";";
      laneBehind(first, "p0,11;", 1);
      laneBehind(first, "p" + (yards - 1) + ",11;", 1);
      laneBehind(first, "p" + yards + ",11;", -2000);
      laneBehind(first, "p99,11;", -2000);
      due("YARD of the last", told(first, "p" + (yards - 1) + ",11;").player(0, 0), yards - 1);
      KeptUpByFeet x = told(first, "p1,11;");
      due("move(0, -1)", x.move(0, -1), -4);
      due("move(0, YARDS)", x.move(0, yards), -6);
      due("move(0, least)", x.move(0, LEAST), -4);
      due("move(0, most)", x.move(0, MOST), -6);
      due("move(0, 0)", x.move(0, 0), 1);
      due("move(0, the last)", x.move(0, yards - 1), 0);
      due("YARD", x.player(0, 0), yards - 1);
    }
    laneOf("p00,11;", 1);
    laneOf("p011,11;", -1003);
  }

  private static void pace() {
    sentence("with a PACE (1 .. 3)");
    for (int pace = 0; pace <= 9; pace++) laneOf("p0," + pace + "0;", pace >= 1 && pace <= 3 ? 1 : -2000);
    due("PACE 1", told("p0,10;").player(0, 1), 1);
    due("PACE 3", told("p0,30;").player(0, 1), 3);
  }

  private static void skill() {
    sentence("SKILL (0 .. 9)");
    for (int skill = 0; skill <= 9; skill++) due("SKILL", told("p0,1" + skill + ";").player(0, 2), skill);
    KeptUpByFeet x = told("p0,15;");
    due("skill(0, -1)", x.skill(0, -1), -4);
    due("skill(0, 10)", x.skill(0, 10), -6);
    due("skill(0, least)", x.skill(0, LEAST), -4);
    due("skill(0, most)", x.skill(0, MOST), -6);
    due("skill(0, 0)", x.skill(0, 0), 5);
    due("skill(0, 9)", x.skill(0, 9), 0);
    due("SKILL", x.player(0, 2), 9);
  }

  private static void tiredMost() {
    sentence("TIRED (0 .. 99; 0 at first); more TIRED (99 at most)");
    // SPUN of FIGURE 9 TIRES by 11: nine times is 99; its way is put right by e.
    KeptUpByFeet x = told("p5,30;t499;t009;b0;");
    due("at first", x.player(0, 3), 0);
    for (int i = 1; i <= 9; i++) {
      due("keep", x.keep(0, 0, -1), i);
      due("TIRED", x.player(0, 3), 11 * i);
    }
    due("one more", x.keep(1, 0, 0), 10);
    due("TIRED", x.player(0, 3), 99);
    // SPUN of FIGURE 8 by 10, TOUCH by 1: 98, then 99; from 98 by 10, still 99.
    KeptUpByFeet y = told("p5,30;t489;t009;b0;");
    for (int i = 1; i <= 9; i++) due("keep", y.keep(0, 0, 1), i);
    for (int i = 1; i <= 8; i++) due("keep", y.keep(1, 0, 0), 9 + i);
    due("TIRED", y.player(0, 3), 98);
    due("image", y.image(), 17);
    due("keep", y.keep(1, 0, 0), 18);
    due("TIRED", y.player(0, 3), 99);
    due("restore", y.restore(), 17);
    due("keep", y.keep(0, 0, 1), 18);
    due("TIRED", y.player(0, 3), 99);
    due("count(6)", y.count(6), 99);
  }

  private static void tiredLeast() {
    sentence("all others 1 less (0 at least), behind that");
    KeptUpByFeet x = told("p5,39;p6,39;p7,39;t209;t309;b0;");
    due("keep", x.keep(0, 1, 0), 1);
    due("he who touched it", x.player(0, 3), 2);
    due("he who has it", x.player(1, 3), 0);
    due("another", x.player(2, 3), 0);
    due("CALM", x.keep(1, 2, 0), 2);
    due("1 less", x.player(0, 3), 1);
    due("CALM does not tire", x.player(1, 3), 0);
    due("CALM", x.keep(1, 2, 0), 3);
    due("1 less", x.player(0, 3), 0);
    due("CALM", x.keep(1, 2, 0), 4);
    due("0 at least", x.player(0, 3), 0);
    due("count(6)", x.count(6), 0);
  }

  private static void kindFigureHeight() {
    sentence("of KINDS: 0 .. 5: with a FIGURE (0 .. 9), a HEIGHT (1 .. 9)");
    for (int d = 0; d <= 9; d++) {
      laneOf("t" + d + "01;", d <= 5 ? 1 : -2000);
      laneOf("t0" + d + "1;", 1);
      laneOf("t00" + d + ";", d >= 1 ? 1 : -2000);
    }
    KeptUpByFeet x = told("t001;t599;");
    all(x, 0, 0, 0, 5);
    all(x, 0, 1, 0, 9);
    all(x, 0, 2, 1, 9);
  }

  private static void ballAndCountAtFirst() {
    sentence("The BALL is with a PLAYER or down (at first). COUNT (0 at first).");
    KeptUpByFeet x = new KeptUpByFeet();
    due("count(4)", x.count(4), -9);
    due("count(3)", x.count(3), 0);
    due("lane", tell(x, "p0,11;t001;"), 2);
    due("count(4)", x.count(4), -9);
    due("count(3)", x.count(3), 0);
  }

  // ---- Terms: AIR, ERROR, DRIFT, TIRES

  private static void air() {
    sentence("LOW half of a TOUCH's, cut, 1 at least");
    all(told("t101;t102;t103;t104;t108;t109;"), 0, 3, 1, 1, 1, 2, 4, 4);
    sentence("CALM a LOW's and 1");
    all(told("t301;t302;t303;t304;t308;t309;"), 0, 3, 2, 2, 2, 3, 5, 5);
    sentence("TOUCH HEIGHT; HIGH a TOUCH's and 1; SPUN as a HIGH; PASS as a TOUCH");
    all(told("t001;t009;t201;t209;t401;t409;"), 0, 3, 1, 9, 2, 10, 2, 10);
    all(told("t501;t509;"), 0, 3, 1, 9);
  }

  private static void errorOfSkill() {
    sentence("less half of his SKILL, cut; 0 at least");
    KeptUpByFeet x = told("p5,30;p6,30;t009;t109;t309;t509;");
    int[] plain = {4, 4, 3, 3, 2, 2, 1, 1, 0, 0};
    for (int skill = 0; skill <= 9; skill++) {
      x.skill(0, skill);
      due("TOUCH of SKILL " + skill, x.error(0, 0, 1), plain[skill]);
      due("to himself", x.error(0, 0, 0), plain[skill]);
      due("LOW a TOUCH's, and 1", x.error(1, 0, 1), plain[skill] + 1);
      due("CALM half of a LOW's, cut", x.error(2, 0, 1), new int[] {2, 2, 2, 2, 1, 1, 1, 1, 0, 0}[skill]);
      due("PASS to another one", x.error(3, 0, 1), plain[skill]);
      due("PASS to himself 2 more", x.error(3, 0, 0), plain[skill] + 2);
      due("the other's SKILL is nothing to it", x.error(0, 1, 0), 4);
    }
  }

  private static void errorOfTired() {
    sentence("a twentieth of his TIRED, cut");
    KeptUpByFeet x = told("p5,30;t009;b0;");
    for (int tired = 0; tired <= 99; tired++) {
      if (tired % 20 == 0 || tired % 20 == 19) {
        due("TIRED", x.player(0, 3), tired);
        due("ERROR of TIRED " + tired, x.error(0, 0, 0), 4 + tired / 20);
      }
      due("keep", x.keep(0, 0, 0), tired + 1);
    }
    due("TIRED", x.player(0, 3), 99);
    due("the greatest ERROR of a TOUCH", x.error(0, 0, 0), 8);
    x.skill(0, 9);
    due("of SKILL 9", x.error(0, 0, 0), 4);
  }

  private static void errorOfHeightAndFigure() {
    sentence("HIGH a TOUCH's, and a third of HEIGHT, cut");
    KeptUpByFeet x = told("p5,39;t201;t202;t203;t205;t206;t208;");
    int[] third = {0, 0, 1, 1, 2, 2};
    for (int t = 0; t < 6; t++) due("error of " + t, x.error(t, 0, 0), third[t]);
    due("of HEIGHT 9", told("p5,39;t209;").error(0, 0, 0), 3);
    sentence("SPUN a HIGH's, and a fourth of FIGURE, cut");
    KeptUpByFeet y = told("p5,39;t401;t431;t441;t471;t481;t491;");
    int[] fourth = {0, 0, 1, 1, 2, 2};
    for (int t = 0; t < 6; t++) due("error of " + t, y.error(t, 0, 0), fourth[t]);
    due("of HEIGHT 9, FIGURE 9", told("p5,39;t499;").error(0, 0, 0), 5);
  }

  private static void driftOfTouch() {
    sentence("TOUCH WIND times AIR by 4 (cut toward 0)");
    KeptUpByFeet x = told("t001;t003;t004;t007;t008;t009;");
    int[][] drift = {{0, -2, -3, -5, -6, -6}, {0, -1, -2, -3, -4, -4}, {0, 0, -1, -1, -2, -2}, {0, 0, 0, 0, 0, 0},
        {0, 0, 1, 1, 2, 2}, {0, 1, 2, 3, 4, 4}, {0, 2, 3, 5, 6, 6}};
    for (int v = -3; v <= 3; v++) {
      x.wind(v);
      for (int t = 0; t < 6; t++) due("DRIFT of " + t + " in WIND " + v, x.touch(t, 4), 10 + drift[v + 3][t]);
    }
    sentence("PASS half of a TOUCH's (cut toward 0)");
    KeptUpByFeet y = told("t501;t503;t504;t507;t508;t509;");
    int[][] half = {{0, -1, -1, -2, -3, -3}, {0, 0, -1, -1, -2, -2}, {0, 0, 0, 0, -1, -1}, {0, 0, 0, 0, 0, 0},
        {0, 0, 0, 0, 1, 1}, {0, 0, 1, 1, 2, 2}, {0, 1, 1, 2, 3, 3}};
    for (int v = -3; v <= 3; v++) {
      y.wind(v);
      for (int t = 0; t < 6; t++) due("DRIFT of " + t + " in WIND " + v, y.touch(t, 4), 10 + half[v + 3][t]);
    }
  }

  private static void driftOfOthers() {
    sentence("LOW 0. CALM as a LOW");
    KeptUpByFeet low = told("w-3;t109;t309;");
    all(low, 0, 4, 10, 10);
    low.wind(3);
    all(low, 0, 4, 10, 10);
    sentence("HIGH twice a TOUCH's. SPUN a HIGH's, and 1 the way of the LANE if FIGURE is odd, 1 back if not");
    KeptUpByFeet x = told("t202;t209;t402;t412;t489;t499;");
    int[][] drift = {{-4, -14, -5, -3, -15, -13}, {-2, -10, -3, -1, -11, -9}, {0, -4, -1, 1, -5, -3}, {0, 0, -1, 1, -1, 1},
        {0, 4, -1, 1, 3, 5}, {2, 10, 1, 3, 9, 11}, {4, 14, 3, 5, 13, 15}};
    for (int v = -3; v <= 3; v++) {
      x.wind(v);
      for (int t = 0; t < 6; t++) due("DRIFT of " + t + " in WIND " + v, x.touch(t, 4), 10 + drift[v + 3][t]);
    }
  }

  private static void tires() {
    sentence("TIRES: TOUCH 1; LOW as a TOUCH; HIGH a TOUCH's and 1; CALM 0; SPUN a HIGH's and FIGURE; PASS as a TOUCH");
    all(told("t099;t199;t299;t399;t499;t599;"), 0, 5, 1, 1, 2, 0, 11, 1);
    all(told("t001;t101;t201;t301;t401;t501;"), 0, 5, 1, 1, 2, 0, 2, 1);
  }

  // ---- Terms: to KEEP it up

  private static void errorTaken() {
    sentence("with an error e (of -ERROR .. ERROR)");
    for (int skill = 0; skill <= 9; skill++) {
      int most = 4 - skill / 2;
      KeptUpByFeet x = told("p5,3" + skill + ";t009;b0;");
      due("keep below", x.keep(0, 0, -most - 1), -4);
      due("keep above", x.keep(0, 0, most + 1), -6);
      due("keep least of ints", x.keep(0, 0, LEAST), -4);
      due("keep most of ints", x.keep(0, 0, MOST), -6);
      due("COUNT", x.count(3), 0);
      due("keep at -ERROR", x.keep(0, 0, -most), 1);
      due("YARD", x.player(0, 0), 5 - most);
      due("keep at ERROR", x.keep(0, 0, most), 2);
      due("YARD", x.player(0, 0), 5);
    }
    KeptUpByFeet pass = told("p5,39;p6,39;t509;b0;");
    due("PASS to himself", pass.keep(0, 0, 3), -6);
    due("PASS to himself", pass.keep(0, 0, -3), -4);
    due("PASS to himself", pass.keep(0, 0, 2), 1);
    due("PASS to another one", pass.keep(0, 1, 1), -6);
    due("PASS to another one", pass.keep(0, 1, -1), -4);
    due("PASS to another one", pass.keep(0, 1, 0), 2);
  }

  private static void keepAt(String letters, int e, boolean had, int yard) {
    KeptUpByFeet x = told(letters);
    due("keep of " + letters + " with " + e, x.keep(0, 0, e), had ? 1 : 0);
    due("YARD", x.player(0, 0), yard);
    due("who has it", x.count(4), had ? 0 : -9);
    due("TIRED", x.player(0, 3), 1);
  }

  private static void yardInTheLane() {
    sentence("If that YARD is in the LANE");
    keepAt("y3;p1,30;t009;b0;", -1, true, 0);
    keepAt("y3;p1,30;t009;b0;", -2, false, 1);
    keepAt("y3;p1,30;t009;b0;", 1, true, 2);
    keepAt("y3;p1,30;t009;b0;", 2, false, 1);
    keepAt("y12;p4,30;t009;b0;", -4, true, 0);
    keepAt("y12;p3,30;t009;b0;", -4, false, 3);
    keepAt("y12;p7,30;t009;b0;", 4, true, 11);
    keepAt("y12;p8,30;t009;b0;", 4, false, 8);
    keepAt("w-1;p2,30;t008;b0;", 0, true, 0);
    keepAt("w-1;p2,30;t008;b0;", -1, false, 2);
    keepAt("w+1;p9,30;t008;b0;", 0, true, 11);
    keepAt("w+1;p9,30;t008;b0;", 1, false, 9);
  }

  private static void noFartherThanPaceTimesAir() {
    sentence("no farther from him than PACE times AIR");
    for (int pace = 1; pace <= 3; pace++) {
      String letters = "p5,P0;t001;b0;".replace("P", "" + pace);
      keepAt(letters, pace, true, 5 + pace);
      keepAt(letters, pace + 1, false, 5);
      keepAt(letters, -pace, true, 5 - pace);
      keepAt(letters, -pace - 1, false, 5);
    }
    keepAt("p5,10;t003;b0;", 3, true, 8);
    keepAt("p5,10;t003;b0;", 4, false, 5);
    // DRIFT is 2 of HEIGHT 3: with e -4 it is 2 back, with e 1 it is 3 on, with e 2 too far.
    keepAt("w+3;p5,10;t003;b0;", -4, true, 3);
    keepAt("w+3;p5,10;t003;b0;", 1, true, 8);
    keepAt("w+3;p5,10;t003;b0;", 2, false, 5);
    sentence("no farther from him (to whom it is touched)");
    KeptUpByFeet x = told("p0,10;p5,30;t001;b0;");
    due("keep", x.keep(0, 1, 3), 1);
    due("his YARD", x.player(1, 0), 8);
    due("the other stays", x.player(0, 0), 0);
  }

  private static void countAndBall() {
    sentence("he has it there, COUNT is 1 more; else it is down, COUNT is 0");
    KeptUpByFeet x = told("p5,19;p9,10;t001;b0;");
    for (int i = 1; i <= 100; i++) due("keep", x.keep(0, 0, 0), i);
    due("count(3)", x.count(3), 100);
    due("to the other", x.keep(0, 1, 0), 101);
    due("who has it", x.count(4), 1);
    due("beyond his reach", x.keep(0, 1, 2), 0);
    due("count(3)", x.count(3), 0);
    due("count(4)", x.count(4), -9);
    due("down", x.keep(0, 0, 0), -3);
    due("give", x.give(0), -9);
    due("anew", x.keep(0, 0, 0), 1);
  }

  // ---- Terms: letters

  private static void lettersTaken() {
    sentence("letters, one by one (80 at most); -4; -6 (255; 80, too)");
    KeptUpByFeet x = new KeptUpByFeet();
    due("count(7)", x.count(7), 0);
    due("feed(-1)", x.feed(-1), -4);
    due("feed(256)", x.feed(256), -6);
    due("feed(least)", x.feed(LEAST), -4);
    due("feed(most)", x.feed(MOST), -6);
    due("feed(0)", x.feed(0), 1);
    due("feed(255)", x.feed(255), 2);
    for (int i = 3; i <= 80; i++) due("feed", x.feed('0'), i);
    due("an 81st", x.feed('0'), -6);
    due("an 81st of 0", x.feed(0), -6);
    due("an 81st of 256", x.feed(256), -6);
    due("an 81st below", x.feed(-1), -4);
    due("count(7)", x.count(7), 80);
    due("lane", x.lane(), -1000);
    due("no more then", x.count(7), 0);
    due("feed", x.feed('0'), 1);
    sentence("80 at most: a full LANE");
    KeptUpByFeet full = new KeptUpByFeet();
    due("80 letters", tell(full, times("w+3;", 19) + "w-3;"), 20);
    due("the last STATEMENT comes, too", full.count(5), 0);
    laneOf("p0,11;" + times("b0;", 24), 25);
    laneOf(times("y9;", 26) + "y9", -1080);
    laneOf(times("y9;", 26) + "yq", -1079);
    laneOf(times("y9;", 26) + "q9", -1078);
    laneOf(times("w+1;", 19) + "w+9;", -2076);
  }

  private static void atLeastOne() {
    sentence("At least one STATEMENT");
    KeptUpByFeet x = told("y5;p4,11;t001;b0;");
    due("lane of nothing", x.lane(), -1000);
    due("count(0)", x.count(0), 5);
    due("count(4)", x.count(4), 0);
    laneOf("y5;", 1);
  }

  private static void lastYardThen() {
    sentence("PLAYERS farther are in the last one then");
    KeptUpByFeet x = told("p0,11;p4,11;p5,11;p6,11;p11,11;");
    due("lane", tell(x, "y6;"), 1);
    int[] six = {0, 4, 5, 5, 5};
    for (int p = 0; p < 5; p++) due("YARD of " + p, x.player(p, 0), six[p]);
    due("lane", tell(x, "y3;y12;"), 2);
    int[] three = {0, 2, 2, 2, 2};
    for (int p = 0; p < 5; p++) due("YARD of " + p, x.player(p, 0), three[p]);
    KeptUpByFeet y = told("p2,11;p3,11;p11,11;y3;");
    for (int p = 0; p < 3; p++) due("YARD of " + p, y.player(p, 0), 2);
    KeptUpByFeet none = told("y3;");
    due("nobody is moved", none.count(1), 0);
  }

  /** At each place of a STATEMENT all letters that can go on there; all others can't, and the end can't. */
  private static void everyLetter(String start, String... goOn) {
    StringBuilder before = new StringBuilder(start);
    for (String letters : goOn) {
      int place = before.length();
      for (int letter = 0; letter <= 255; letter++) {
        boolean can = letters.indexOf(letter) >= 0;
        KeptUpByFeet x = new KeptUpByFeet();
        for (int i = 0; i < place; i++) x.feed(before.charAt(i));
        x.feed(letter);
        if (can && letter == ';') continue;
        due("lane of " + before + " and letter " + letter, x.lane(), can ? -1001 - place : -1000 - place);
      }
      laneOf(before.toString(), -1000 - place);
      before.append(letters.charAt(0));
    }
  }

  private static void faultOfLetters() {
    String digits = "0123456789";
    for (String start : new String[] {"", "y3;", "p0,11;b0;"}) {
      sentence("kind 1: the first letter of a STATEMENT");
      if (start.isEmpty()) everyLetter(start, "ywptb");
      else for (int letter = 0; letter <= 255; letter++) {
        KeptUpByFeet x = new KeptUpByFeet();
        for (int i = 0; i < start.length(); i++) x.feed(start.charAt(i));
        x.feed(letter);
        boolean can = "ywptb".indexOf(letter) >= 0;
        due("lane of " + start + " and letter " + letter, x.lane(), -1000 - start.length() - (can ? 1 : 0));
      }
      sentence("kind 1: \"y\" YARDS (1 or 2 digits)");
      everyLetter(start + "y", digits, digits + ";", ";");
      sentence("kind 1: \"w\" WIND (\"+\" or \"-\" and a digit)");
      everyLetter(start + "w", "+-", digits, ";");
      sentence("kind 1: \"p\" a YARD (1 or 2 digits), \",\", PACE, SKILL (a digit each)");
      everyLetter(start + "p", digits, digits + ",", ",", digits, digits, ";");
      everyLetter(start + "p3", "," + digits, digits, digits, ";");
      sentence("kind 1: \"t\" KIND, FIGURE, HEIGHT (a digit each)");
      everyLetter(start + "t", digits, digits, digits, ";");
      sentence("kind 1: \"b\" a PLAYER (a digit)");
      everyLetter(start + "b", digits, ";");
    }
  }

  private static void faultOrder() {
    sentence("FAULT: kind 1 ..; else kind 2 the place of the first letter of the first STATEMENT that is not as it must be");
    laneOf("y2;q", -1003);
    laneOf("y2;y", -1004);
    laneOf("y2;w+9;b9;y5", -1012);
    laneOf("y2;w+9;b9;", -2000);
    laneOf("y3;w+9;b9;", -2003);
    laneOf("y3;w+3;b9;", -2007);
    laneOf("y3;w+3;p3,11;", -2007);
    laneOf("y3;w+3;p2,11;b0;t000;", -2016);
    laneOf("y3;w+3;p2,11;b0;t001;", 5);
    sentence("no such PLAYER");
    laneOf("b0;", -2000);
    laneOf("b0;p0,11;", -2000);
    laneOf("p0,11;b0;", 2);
    laneOf("p0,11;b1;", -2006);
    laneOf(times("p0,11;", 5) + "b4;", 6);
    laneOf(times("p0,11;", 5) + "b5;", -2030);
    laneOf(times("p0,11;", 5) + "b9;", -2030);
    sentence("no such YARD (of the LANE as it is by then)");
    laneOf("y5;p5,11;y12;", -2003);
    laneOf("p11,11;y5;p5,11;", -2010);
    laneOf("y3;y12;p11,11;", 3);
  }

  private static void allOrNothing() {
    sentence("Without FAULT all of it comes, with one nothing");
    String[] faults = {"y3;w-2;p0,11;t222;b1;q", "y3;w-2;p0,11;t222;b1;b9;", "y3;w-2;p0,11;t222;b1;y13;", "y3;w-2;p0,11;t222;b1;t",
        "y2;w-2;p0,11;t222;b1;", "y3;w-2;p0,11;t222;b1;w+4;", "y3;w-2;p0,11;t222;b1;t900;", "y3;w-2;p0,11;t222;b1;p3,11;"};
    for (String letters : faults) {
      KeptUpByFeet x = told("y9;w+1;p8,25;t004;b0;");
      due("keep", x.keep(0, 0, -1), 1);
      due("FAULT of " + letters, tell(x, letters) < 0 ? 1 : 0, 1);
      int[] want = {9, 1, 1, 1, 0, 4, 1, 0, 0, -9, -9, 0, 0, 0, 0, 0, 0};
      for (int what = 0; what < want.length; what++) due("count(" + what + ") behind " + letters, x.count(what), want[what]);
      due("YARD", x.player(0, 0), 8);
      due("all of it", tell(x, "y3;w-2;p0,11;t222;b1;"), 5);
      int[] then = {3, 2, 2, 0, 1, 1, 1, 0, 0};
      for (int what = 0; what < then.length; what++) due("count(" + what + ")", x.count(what), then[what]);
      due("YARD", x.player(0, 0), 2);
    }
    sentence("\"b\": the BALL is with him, COUNT is 0");
    KeptUpByFeet x = told("p5,19;t001;b0;");
    due("keep", x.keep(0, 0, 0), 1);
    due("lane", tell(x, "y12;w+0;p0,11;t001;"), 4);
    due("COUNT stays without b", x.count(3), 1);
    due("lane", tell(x, "b0;"), 1);
    due("COUNT", x.count(3), 0);
    due("who has it", x.count(4), 0);
  }

  // ---- II: in mind

  private static void again() {
    sentence("AGAIN (as if he had the BALL): a fraction in least terms");
    KeptUpByFeet x = told("y3;w+3;p0,10;p2,30;p1,39;t009;t001;t501;");
    odds(x, 0, 0, 1, 0, 1);
    odds(x, 1, 2, 0, 1, 1);
    odds(x, 1, 0, 0, 2, 9);
    odds(x, 1, 0, 2, 1, 3);
    // PASS to himself with ERROR 2: three of five.
    odds(x, 2, 2, 2, 3, 5);
    due("give", x.give(1), -9);
    odds(x, 1, 0, 2, 1, 3);
    due("part -1", x.again(0, 0, 0, -1), 4000000000000000002L);
    due("part 2", x.again(0, 0, 0, 2), 4000000000000000002L);
    sentence("All e of -ERROR .. ERROR are alike likely: the greatest ERROR, 13");
    KeptUpByFeet y = told("p5,30;t499;b0;");
    for (int i = 1; i <= 9; i++) y.keep(0, 0, -1);
    due("ERROR", y.error(0, 0, 0), 13);
    // Wherever he is, it can come down in all twelve YARDS, all within reach: 12 of 27.
    odds(y, 0, 0, 0, 4, 9);
    oddsOn(y, 1, 4, 9);
    oddsOn(y, 2, 16, 81);
  }

  private static void best() {
    sentence("BEST: of several the least; -9 nobody has it, there are no TOUCHES");
    due("nobody", new KeptUpByFeet().best(), -9);
    due("down", told("p5,19;t001;").best(), -9);
    due("no TOUCHES", told("p5,19;b0;").best(), -9);
    due("TOUCHES without PLAYERS", told("t001;").best(), -9);
    due("one", told("p5,19;t001;b0;").best(), 0);
    due("all alike", told("p5,19;p6,19;p7,19;t001;t002;b1;").best(), 0);
    due("none is ever had", told("y3;w+3;p2,19;p2,19;t009;t008;b1;").best(), 0);
    due("of several PLAYERS the least", told("p0,10;p5,10;p6,10;t001;b0;").best(), 1);
    due("of several TOUCHES the least", told("p5,10;p6,10;t001;t302;t302;b0;").best(), 10);
    due("the TOUCH before the PLAYER", told("p0,10;p5,10;t302;t302;b0;").best(), 1);
    sentence("10 times the TOUCH, and the PLAYER: full");
    KeptUpByFeet x = told(times("p0,10;", 4) + "p5,30;" + times("t001;", 5) + "t301;b0;");
    due("best()", x.best(), 54);
    oddsOn(x, 1, 1, 1);
    oddsOn(x, 2, 1, 1);
    // To himself by PASS: 5 of 13; a LOW's are 3 of 11, a PASS to another one is 3 of 9. With SKILL 2 5 of 11.
    KeptUpByFeet y = told(times("p0,10;", 4) + "p5,11;" + times("t101;", 5) + "t502;b4;");
    due("best()", y.best(), 54);
    oddsOn(y, 1, 5, 13);
    due("worth()", y.worth(), 70);
  }

  private static void on() {
    sentence("ON: n times more (1 .. 2); 0 by 1: nobody has it, there are no TOUCHES");
    KeptUpByFeet x = told("p0,10;t001;b0;");
    due("on(0, 0)", x.on(0, 0), 4000000000000000004L);
    due("on(3, 0)", x.on(3, 0), 4000000000000000006L);
    due("on(least, 0)", x.on(LEAST, 0), 4000000000000000004L);
    due("on(most, 0)", x.on(MOST, 0), 4000000000000000006L);
    due("on(1, -1)", x.on(1, -1), 4000000000000000002L);
    due("on(1, 2)", x.on(1, 2), 4000000000000000002L);
    due("on(2, least)", x.on(2, LEAST), 4000000000000000002L);
    oddsOn(x, 1, 2, 9);
    oddsOn(x, 2, 5, 81);
    KeptUpByFeet[] none = {new KeptUpByFeet(), told("p0,10;t001;"), told("p0,10;b0;"), told("t001;"),
        told("y3;w+3;p2,19;t009;b0;")};
    for (KeptUpByFeet y : none) for (int n = 1; n <= 2; n++) oddsOn(y, n, 0, 1);
    KeptUpByFeet fallen = told("p5,10;t001;b0;");
    oddsOn(fallen, 1, 1, 3);
    due("down", fallen.keep(0, 0, 2), 0);
    oddsOn(fallen, 1, 0, 1);
    oddsOn(fallen, 2, 0, 1);
    sentence("ON: that TOUCH and PLAYER is chosen by which the odds of all that is left are greatest");
    // To the one of SKILL 9 seven of nine are had, and surely again; to the one of SKILL 0 three of nine at most.
    oddsOn(told("p5,10;p5,39;t001;b0;"), 2, 7, 9);
    oddsOn(told("p5,39;p5,10;t001;b1;"), 2, 7, 9);
    // To himself 5 of 9, and 5 of 9 again; to the other 3 of 9, and surely then, which is more.
    KeptUpByFeet patient = told("p5,20;p6,19;t001;b0;");
    due("best()", patient.best(), 0);
    oddsOn(patient, 1, 5, 9);
    oddsOn(patient, 2, 1, 3);
    // All are sure, but only to himself it is sure again.
    KeptUpByFeet sure = told("p5,10;p5,39;t001;b1;");
    due("best()", sure.best(), 0);
    oddsOn(sure, 2, 1, 1);
  }

  private static void stand() {
    sentence("STAND: of several the least; -9 nobody has it");
    due("down", told("p5,19;t001;").stand(0, 0), -9);
    due("every YARD alike", told("p5,19;t001;b0;").stand(0, 0), 0);
    due("no YARD will do", told("y3;w+3;p1,19;t009;b0;").stand(0, 0), 0);
    due("the last alone", told("y7;w-3;p1,19;t009;b0;").stand(0, 0), 6);
    due("the last is too near", told("y6;w-3;p1,19;t009;b0;").stand(0, 0), 0);
    due("the first of some", told("y8;w-3;p1,19;t009;b0;").stand(0, 0), 6);
    due("the first without any error out of the LANE", told("w-1;p1,10;p1,39;t009;b0;").stand(0, 1), 6);
    due("the first alone", told("y7;w+3;p1,19;t009;b0;").stand(0, 0), 0);
    due("another", told("y7;w-3;p1,19;p0,10;t009;b0;").stand(0, 1), 6);
    KeptUpByFeet x = told("y7;p1,19;t009;b0;");
    due("without a WIND", x.stand(0, 0), 0);
    due("wind", x.wind(-3), 3);
    due("with one", x.stand(0, 0), 6);
  }

  private static void grows() {
    sentence("GROWS: ERROR of the n-th (1 .. 20)");
    KeptUpByFeet x = told("p5,39;t009;t309;t499;t509;b0;");
    due("grows(0, 0, 0)", x.grows(0, 0, 0), -4);
    due("grows(0, 0, 21)", x.grows(0, 0, 21), -6);
    due("grows(0, 0, least)", x.grows(0, 0, LEAST), -4);
    due("grows(0, 0, most)", x.grows(0, 0, MOST), -6);
    due("the first", x.grows(0, 0, 1), 0);
    due("the 20th is TIRED 19", x.grows(0, 0, 20), 0);
    due("keep", x.keep(0, 0, 0), 1);
    due("the 19th is TIRED 19", x.grows(0, 0, 19), 0);
    due("the 20th is TIRED 20", x.grows(0, 0, 20), 1);
    due("PASS to himself", x.grows(3, 0, 19), 2);
    due("PASS to himself", x.grows(3, 0, 20), 3);
    due("CALM stays", x.grows(1, 0, 20), 0);
    sentence("GROWS: TIRED 0 .. 99");
    KeptUpByFeet y = told("p5,30;t499;");
    int[] want = {9, 9, 10, 10, 11, 11, 12, 12, 13, 13, 13, 13, 13, 13, 13, 13, 13, 13, 13, 13};
    for (int n = 1; n <= 20; n++) due("grows(0, 0, " + n + ")", y.grows(0, 0, n), want[n - 1]);
    due("in mind", y.player(0, 3), 0);
  }

  private static void worth() {
    sentence("WORTH of SKILL 1 more (9 at most) (of a 1000, each cut) (0 at least); -9 nobody has it, there are no TOUCHES");
    due("nobody", new KeptUpByFeet().worth(), -9);
    due("down", told("p5,19;t001;").worth(), -9);
    due("no TOUCHES", told("p5,19;b0;").worth(), -9);
    // In YARD 0 with all in reach: 5 of 9, 4 of 7, 3 of 5, 2 of 3, 1.
    int[] want = {0, 16, 0, 29, 0, 66, 0, 334, 0, 0};
    for (int skill = 0; skill <= 9; skill++) {
      KeptUpByFeet x = told("p0,3" + skill + ";t009;b0;");
      due("worth of SKILL " + skill, x.worth(), want[skill]);
      due("in mind", x.player(0, 2), skill);
    }
    // From the last YARD, the WIND 1 on: 4 of 9, 3 of 7, 2 of 5, 1 of 3, none: each is less.
    for (int skill = 0; skill <= 9; skill++) due("0 at least", told("w+1;p11,3" + skill + ";t004;b0;").worth(), 0);
  }

  private static void who() {
    sentence("WHO of the PLAYERS the one to whom it is had most likely; -9");
    due("down", told("p5,19;t001;").who(0), -9);
    due("alone", told("p5,19;t001;b0;").who(0), 0);
    due("all alike", told("p5,19;p6,19;p7,19;t001;b2;").who(0), 0);
    due("of several the least", told("p0,10;p5,10;p6,10;t001;b0;").who(0), 1);
    due("none is likely", told("y3;w+3;p2,19;p2,19;t009;b1;").who(0), 0);
    due("the last of five", told(times("p0,10;", 4) + "p5,10;t001;b0;").who(0), 4);
    due("a new object", new KeptUpByFeet().who(0), -1);
    due("no such TOUCH", told("p5,19;t001;b0;").who(1), -1);
  }

  private static void windsByWhereItCameDown() {
    sentence("WINDS (bits: 0 of -3, 1 of -2, .. 6 of 3) by which it can have been so");
    KeptUpByFeet x = told("p5,19;p4,10;p3,10;t004;");
    int[] bits = {0, 0, 1, 2, 4, 8, 16, 32, 64, 0, 0, 0};
    for (int yard = 0; yard < 12; yard++) due("winds(0, 0, 0, " + yard + ")", x.winds(0, 0, 0, yard), bits[yard]);
    due("all of them", x.winds(0, 1, 1, 4), 127);
    due("the greatest alone", x.winds(0, 1, 1, 11), 64);
    due("none", x.winds(0, 1, 2, 11), 0);
    due("none of the way of the LANE", x.winds(0, 1, 1, 0), 15);
    sentence("winds: -4; -6 (no such YARD)");
    due("winds(0, 0, 0, -1)", x.winds(0, 0, 0, -1), -4);
    due("winds(0, 0, 0, 12)", x.winds(0, 0, 0, 12), -6);
    due("winds(0, 0, 0, least)", x.winds(0, 0, 0, LEAST), -4);
    due("winds(0, 0, 0, most)", x.winds(0, 0, 0, MOST), -6);
    KeptUpByFeet y = told("y3;p1,19;t004;");
    due("the first YARD", y.winds(0, 0, 0, 0), 4);
    due("the last YARD", y.winds(0, 0, 0, 2), 16);
    due("none behind it", y.winds(0, 0, 0, 3), -6);
  }

  private static void longest() {
    sentence("LONGEST: n of them, 1 .. 3: how many such rows; the least TIRED behind one of these; -9");
    KeptUpByFeet x = told("p5,19;" + times("t001;", 6) + "b0;");
    due("longest(0, 0)", x.longest(0, 0), -4);
    due("longest(4, 0)", x.longest(4, 0), -6);
    due("longest(least, 0)", x.longest(LEAST, 0), -4);
    due("longest(most, 0)", x.longest(MOST, 0), -6);
    due("longest(1, -1)", x.longest(1, -1), -2);
    due("longest(1, 2)", x.longest(1, 2), -2);
    int[] rows = {6, 36, 216};
    for (int n = 1; n <= 3; n++) {
      due("longest(" + n + ", 0)", x.longest(n, 0), rows[n - 1]);
      due("longest(" + n + ", 1)", x.longest(n, 1), n);
    }
    KeptUpByFeet none = told("y3;w+3;p1,19;t009;b0;");
    KeptUpByFeet noTouches = told("p5,19;b0;");
    for (int n = 1; n <= 3; n++) for (KeptUpByFeet y : new KeptUpByFeet[] {none, noTouches}) {
      due("longest(" + n + ", 0)", y.longest(n, 0), 0);
      due("longest(" + n + ", 1)", y.longest(n, 1), -9);
    }
    // DRIFT 1 of y3 from YARD 0: twice it is had, not three times.
    KeptUpByFeet two = told("y3;w+1;p0,19;t004;b0;");
    due("had twice", two.longest(2, 0), 1);
    due("TIRED", two.longest(2, 1), 2);
    due("not three times", two.longest(3, 0), 0);
    due("TIRED", two.longest(3, 1), -9);
    KeptUpByFeet calm = told("p5,19;t001;t301;b0;");
    due("CALM each time", calm.longest(3, 1), 0);
    due("rows", calm.longest(3, 0), 8);
    KeptUpByFeet tired = told("p5,39;t499;b0;");
    for (int i = 1; i <= 9; i++) tired.keep(0, 0, -1);
    due("99 at most", tired.longest(3, 1), 99);
  }

  // ---- the ROW, SEEDS

  private static void rowTaken() {
    sentence("A ROW of numbers (0 .. 999; 8 at most)");
    KeptUpByFeet x = new KeptUpByFeet();
    due("count(8)", x.count(8), 0);
    due("row(-1)", x.row(-1), -4);
    due("row(1000)", x.row(1000), -6);
    due("row(least)", x.row(LEAST), -4);
    due("row(most)", x.row(MOST), -6);
    due("row(0)", x.row(0), 1);
    due("row(999)", x.row(999), 2);
    for (int i = 3; i <= 8; i++) due("row(9)", x.row(9), i);
    due("a ninth", x.row(0), -6);
    due("a ninth above", x.row(1000), -6);
    due("a ninth below", x.row(-1), -4);
    due("count(8)", x.count(8), 8);
    due("judge()", x.judge(), 0);
    due("count(8)", x.count(8), 0);
    due("row(0)", x.row(0), 1);
  }

  private static void judged(KeptUpByFeet x, int want, int... numbers) {
    StringBuilder told = new StringBuilder();
    for (int i = 0; i < numbers.length; i++) {
      told.append(numbers[i]).append(' ');
      due("row(" + numbers[i] + ")", x.row(numbers[i]), i + 1);
    }
    due("judge() of " + told, x.judge(), want);
    due("count(8) behind it", x.count(8), 0);
  }

  private static void judge() {
    sentence("JUDGED: the place of the first; -9 (the ROW has none then)");
    KeptUpByFeet x = told("p5,30;p6,34;t009;t109;b0;");
    judged(x, -9);
    judged(x, -9, 4);
    judged(x, -9, 4, 4, 4, 4, 4, 4, 4, 4);
    judged(x, 7, 4, 4, 4, 4, 4, 4, 4, 9);
    judged(x, 0, 9, 4, 4, 4, 4, 4, 4, 9);
    judged(new KeptUpByFeet(), -9);
    sentence("e -4 .. 4; a 9 there can't be");
    for (int digit = 0; digit <= 9; digit++) judged(x, digit <= 8 ? -9 : 0, digit);
    // LOW by SKILL 0 has an ERROR of 5: e of 5 would be had, but can't be told so.
    due("ERROR", x.error(1, 0, 0), 5);
    due("it would be had", told("p5,30;t109;b0;").keep(0, 0, 5), 1);
    judged(x, 0, 109);
    judged(x, -9, 108);
    judged(x, -9, 100);
    sentence("e beyond ERROR");
    x.give(1);
    due("ERROR", x.error(0, 1, 0), 2);
    for (int digit = 0; digit <= 9; digit++) judged(x, digit >= 2 && digit <= 6 ? -9 : 0, digit);
    sentence("no such TOUCH, PLAYER");
    judged(x, -9, 104);
    judged(x, 0, 204);
    judged(x, 0, 904);
    judged(x, -9, 14);
    judged(x, 0, 24);
    judged(x, 0, 94);
    KeptUpByFeet full = told(times("p5,39;", 5) + times("t009;", 6) + "b0;");
    judged(full, -9, 544);
    judged(full, 0, 644);
    judged(full, 0, 554);
    judged(full, -9, 504);
    judged(told(times("p5,39;", 5) + times("t009;", 5) + "b0;"), 0, 504);
    judged(told("p5,30;t009;b0;"), 0, 100);
    judged(told("p5,30;t009;b0;"), 0, 99);
    sentence("nobody has it; or by which it is down");
    judged(told("p5,30;t009;"), 0, 4);
    judged(told("p5,30;b0;"), 0, 4);
    KeptUpByFeet near = told("p5,10;t001;b0;");
    judged(near, -9, 5);
    judged(near, 0, 6);
    judged(near, 1, 5, 6, 4);
    judged(near, -9, 3);
    judged(near, 0, 2);
    due("in mind", near.player(0, 0), 5);
    due("in mind", near.count(6), 0);
    due("in mind", near.count(3), 0);
    due("in mind", near.count(4), 0);
    sentence("e beyond ERROR, by TIRED in mind");
    // TIRED 19: the first can't be with e of 1, the second, of TIRED 20, can.
    KeptUpByFeet tired = told("p5,39;t009;b0;");
    for (int i = 1; i <= 19; i++) due("keep", tired.keep(0, 0, 0), i);
    judged(tired, 0, 5);
    judged(tired, -9, 4, 5);
  }

  private static void seedsTaken() {
    sentence("SEEDS: n times (1 .. 40)");
    KeptUpByFeet x = told("p5,39;t309;b0;");
    due("seeds(0, 1)", x.seeds(0, 1), -4);
    due("seeds(41, 1)", x.seeds(41, 1), -6);
    due("seeds(least, 1)", x.seeds(LEAST, 1), -4);
    due("seeds(most, 1)", x.seeds(MOST, 1), -6);
    due("seeds(1, 1)", x.seeds(1, 1), 1);
    due("seeds(40, 1)", x.seeds(40, 1), 40);
    due("keep", x.keep(0, 0, 0), 1);
    due("the COUNT at the end", x.seeds(40, 1), 41);
    due("in mind", x.count(3), 1);
    due("down at once", told("y3;w+3;p1,19;t009;b0;").seeds(40, 1), 0);
    due("nobody", new KeptUpByFeet().seeds(1, 1), -3);
    due("down", told("p5,39;t309;").seeds(1, 1), -3);
    due("no TOUCHES", told("p5,39;b0;").seeds(1, 1), -3);
  }

  /** From z 1 the DRAWS are those of the C book's example: 16838 5758 10113, 17515 31051 5627, 23010 7419 16212, 4086 2749 12767. */
  private static void drawsByHand() {
    sentence("a DRAW below n is (z without its sign's bit by 65536, cut) modulo n");
    // e is 2, -2, -1, 1 of ERROR 4 in turn: from YARD 5 to 7, 5, 4, 5, the reach is 3.
    KeptUpByFeet x = told("p5,30;t001;b0;");
    due("seeds(4, 1)", x.seeds(4, 1), 4);
    // With a reach of 1 it is down at once, with 2 it is had four times.
    due("a reach of 1", told("p5,10;t001;b0;").seeds(4, 1), 0);
    due("a reach of 2", told("p5,20;t001;b0;").seeds(4, 1), 4);
    // From YARD 10 with e of 2 it is out of the LANE, from 9 it is not.
    due("from YARD 10", told("p10,30;t001;b0;").seeds(1, 1), 0);
    due("from YARD 9", told("p9,30;t001;b0;").seeds(1, 1), 1);
    // Of three TOUCHES 16838 is the last, of three PLAYERS 5758 the second: only by that one it is had.
    due("TOUCH 2, PLAYER 1", told("w+3;p11,10;p5,30;p11,10;t009;t009;t001;b0;").seeds(1, 1), 1);
    due("not TOUCH 2", told("w+3;p11,10;p5,10;p11,10;t001;t001;t009;b0;").seeds(1, 1), 0);
    due("not PLAYER 1", told("p5,30;p5,10;p5,30;t001;t001;t001;b0;").seeds(1, 1), 0);
  }

  /** The document's DRAWS in whole numbers without an end, so that a wrap-around is done by hand. */
  private static final class Draws {
    private static final BigInteger ALL = BigInteger.ONE.shiftLeft(32);
    private BigInteger z;
    private int wraps = 0;
    private int signs = 0;

    private Draws(int seed) { z = BigInteger.valueOf(seed); }

    private int below(int n) {
      BigInteger whole = z.multiply(BigInteger.valueOf(1103515245)).add(BigInteger.valueOf(12345));
      BigInteger bits = whole.mod(ALL);
      z = bits.testBit(31) ? bits.subtract(ALL) : bits;
      if (!z.equals(whole)) wraps++;
      if (z.signum() < 0) signs++;
      return bits.clearBit(31).shiftRight(16).intValueExact() % n;
    }
  }

  /** Three PLAYERS without WIND, TOUCHES of HEIGHT 1, 2: by hand how often it is had of 40. */
  private static int hadByHand(Draws draws) {
    int[] yard = {2, 5, 9};
    int[] pace = {1, 2, 3};
    int[] skill = {9, 6, 8};
    int[] tired = {0, 0, 0};
    int ball = 0;
    for (int i = 0; i < 40; i++) {
      int air = 1 + draws.below(2);
      int to = draws.below(3);
      int error = 4 + tired[ball] / 20 - skill[ball] / 2;
      int e = draws.below(2 * error + 1) - error;
      if (yard[to] + e < 0 || yard[to] + e > 11 || Math.abs(e) > pace[to] * air) return i;
      for (int p = 0; p < 3; p++) tired[p] = p == ball ? tired[p] + 1 : Math.max(0, tired[p] - 1);
      yard[to] += e;
      ball = to;
    }
    return 40;
  }

  private static void drawsWrapAround() {
    sentence("DRAWS: z becomes z times 1103515245 and 12345 (an int)");
    int wraps = 0;
    int signs = 0;
    int[] edges = {LEAST, LEAST + 1, -65537, -65536, -1, 0, 1, 65535, 65536, MOST - 1, MOST};
    for (int i = 0; i < edges.length + 400; i++) {
      int z = i < edges.length ? edges[i] : (i - 200) * 5368709;
      KeptUpByFeet x = told("p2,19;p5,26;p9,38;t001;t002;b0;");
      Draws draws = new Draws(z);
      due("seeds(40, " + z + ")", x.seeds(40, z), hadByHand(draws));
      wraps += draws.wraps;
      signs += draws.signs;
    }
    due("DRAWS of a negative z are among them", signs > 400 ? 1 : 0, 1);
    due("DRAWS that wrap around are among them", wraps > 400 ? 1 : 0, 1);
  }

  // ---- THE IMAGE, calls

  private static void image() {
    sentence("THE IMAGE: all that there is, but it, letters, the ROW, REFUSALS");
    KeptUpByFeet x = told("y9;w+1;p8,25;p3,16;t004;t301;b0;");
    due("restore() of none", x.restore(), -3);
    due("count(13)", x.count(13), 1);
    due("keep", x.keep(0, 0, -1), 1);
    due("letters before", x.feed('y'), 1);
    due("the ROW before", x.row(3), 1);
    due("image()", x.image(), 1);
    due("letters stay", x.count(7), 1);
    due("the ROW stays", x.count(8), 1);
    due("more letters", x.feed('3'), 2);
    due("more in the ROW", x.row(109), 2);
    due("refused", x.give(9), -1);
    due("keep", x.keep(1, 1, 0), 2);
    x.wind(-2);
    x.skill(0, 0);
    x.move(0, 0);
    due("restore()", x.restore(), 1);
    int[] want = {9, 2, 2, 1, 0, 4, 1, 2, 2, -9, -9, 1, 0, 1, 0, 0, 0};
    for (int what = 0; what < want.length; what++) due("count(" + what + ")", x.count(what), want[what]);
    int[][] players = {{8, 2, 5, 1}, {3, 1, 6, 0}};
    for (int p = 0; p < 2; p++) for (int what = 0; what < 4; what++) due("player", x.player(p, what), players[p][what]);
    due("the letters are those that came last", x.lane(), -1002);
    due("the ROW is what came last", x.judge(), 1);
    due("FAULT", x.count(0), 9);
    due("lane", tell(x, "y3;p0,33;t555;b2;"), 4);
    due("it is still there", x.restore(), 1);
    for (int what = 0; what < 7; what++) due("count(" + what + ")", x.count(what), want[what]);
    due("no such PLAYER", x.player(2, 0), -1);
    due("no such TOUCH", x.touch(2, 0), -1);
    due("there is room again", tell(x, "p0,11;p0,12;p0,13;t001;t001;t001;t001;"), 7);
    due("SKILL of the one who came last", x.player(4, 2), 3);
    sentence("THE IMAGE of a new object");
    KeptUpByFeet y = new KeptUpByFeet();
    due("image()", y.image(), 0);
    due("lane", tell(y, "y3;w+3;p0,11;t001;b0;"), 5);
    due("restore()", y.restore(), 0);
    int[] first = {12, 0, 0, 0, -9, 3, 0, 0, 0};
    for (int what = 0; what < first.length; what++) due("count(" + what + ")", y.count(what), first[what]);
  }

  private static void giveAndBall() {
    sentence("give: who had it; -9 it was down");
    KeptUpByFeet x = told(times("p5,19;", 5) + "t001;");
    due("give(-1)", x.give(-1), -1);
    due("give(5)", x.give(5), -1);
    due("give(0)", x.give(0), -9);
    due("keep", x.keep(0, 4, 0), 1);
    due("give(4)", x.give(4), 4);
    due("COUNT is 0", x.count(3), 0);
    due("give(0)", x.give(0), 4);
    due("count(4)", x.count(4), 0);
  }

  private static void counts() {
    sentence("count: -9 for another what");
    KeptUpByFeet x = told("p5,19;t001;b0;");
    for (int what : new int[] {LEAST, -9, -1, 9, 10, 17, 18, MOST}) due("count(" + what + ")", x.count(what), -9);
    for (int what = 11; what <= 16; what++) due("nothing is refused by that", x.count(what), 0);
    int[] want = {12, 1, 1, 0, 0, 3, 0, 0, 0};
    for (int what = 0; what < want.length; what++) due("count(" + what + ")", x.count(what), want[what]);
  }

  private static void manyCalls() {
    sentence("An object is used for at most 512 calls after it has been made");
    KeptUpByFeet x = told("p5,19;t001;b0;");
    for (int call = 16; call <= 512; call++) due("call " + call, x.keep(0, 0, 0), call - 15);
    KeptUpByFeet y = new KeptUpByFeet();
    for (int call = 1; call <= 511; call++) due("call " + call, y.give(0), -1);
    due("call 512", y.count(11), 511);
  }

  private static void terms() {
    yards();
    winds();
    playersAsTheyCome();
    touchesAsTheyCome();
    yardOfPlayer();
    pace();
    skill();
    tiredMost();
    tiredLeast();
    kindFigureHeight();
    ballAndCountAtFirst();
    air();
    errorOfSkill();
    errorOfTired();
    errorOfHeightAndFigure();
    driftOfTouch();
    driftOfOthers();
    tires();
  }

  private static void keepsAndLetters() {
    errorTaken();
    yardInTheLane();
    noFartherThanPaceTimesAir();
    countAndBall();
    lettersTaken();
    atLeastOne();
    lastYardThen();
    faultOfLetters();
    faultOrder();
    allOrNothing();
  }

  private static void inMind() {
    again();
    best();
    on();
    stand();
    grows();
    worth();
    who();
    windsByWhereItCameDown();
    longest();
    rowTaken();
    judge();
    seedsTaken();
    drawsByHand();
    drawsWrapAround();
  }

  public static void main(String[] args) {
    terms();
    keepsAndLetters();
    inMind();
    image();
    giveAndBall();
    counts();
    manyCalls();
    System.out.println(wrong == 0 ? "all answers are as due" : wrong + " answers are not as due");
    if (wrong != 0) System.exit(1);
  }
}
