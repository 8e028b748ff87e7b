/** Each promise by answers worked out by hand from the document. */
public final class PromisesTest {
  private static final String SCENE = "y10;w+2;p0,29;p5,34;p9,10;t005;t104;t229;t333;t476;t598;";
  private static final long LONG = 4000000000000000000L;
  private static int wrong = 0;

  private static void due(String call, long got, long want) {
    if (got != want) { wrong++; System.out.println(call + " answered " + got + ", due is " + want); }
  }

  private static int tell(KeptUpByFeet x, String letters) {
    for (int i = 0; i < letters.length(); i++) due("feed " + letters + " at " + i, x.feed(letters.charAt(i)), i + 1);
    return x.lane();
  }

  private static KeptUpByFeet told(String letters) {
    KeptUpByFeet x = new KeptUpByFeet();
    int got = tell(x, letters);
    if (got < 1) { wrong++; System.out.println("lane of " + letters + " answered " + got); }
    return x;
  }

  private static KeptUpByFeet scene(int holder) {
    KeptUpByFeet x = told(SCENE);
    due("first give", x.give(holder), -9);
    return x;
  }

  private static void fault(String letters, int want) {
    KeptUpByFeet x = told("y10;p3,11;b0;");
    due("lane of " + letters, tell(x, letters), want);
    due("letters behind " + letters, x.count(7), 0);
    if (want < 0) {
      due("yards behind " + letters, x.count(0), 10);
      due("players behind " + letters, x.count(1), 1);
      due("touches behind " + letters, x.count(2), 0);
      due("wind behind " + letters, x.count(5), 3);
      for (int what = 11; what <= 16; what++) due("refusals behind " + letters, x.count(what), 0);
    }
  }

  private static void newObject() {
    KeptUpByFeet x = new KeptUpByFeet();
    int[] want = {12, 0, 0, 0, -9, 3, 0, 0, 0, -9, -9, 0, 0, 0, 0, 0, 0, -9};
    for (int what = 0; what < want.length; what++) due("new count " + what, x.count(what), want[what]);
  }

  private static void feed() {
    KeptUpByFeet x = new KeptUpByFeet();
    due("feed -1", x.feed(-1), -4);
    due("feed least", x.feed(Integer.MIN_VALUE), -4);
    due("feed 256", x.feed(256), -6);
    due("feed 0", x.feed(0), 1);
    due("feed 255", x.feed(255), 2);
    for (int i = 3; i <= 80; i++) due("feed to 80", x.feed('y'), i);
    due("feed 81", x.feed('y'), -6);
    due("feed 81 below", x.feed(-5), -4);
    due("letters", x.count(7), 80);
    due("-4s", x.count(14), 3);
    due("-6s", x.count(16), 2);
    due("lane of 0", x.lane(), -1000);
    due("letters gone", x.count(7), 0);
    due("feed again", x.feed('y'), 1);
  }

  private static void laneForm() {
    fault("", -1000);
    fault("q", -1000);
    fault("y", -1001);
    fault("yy", -1001);
    fault("y5", -1002);
    fault("y12", -1003);
    fault("y123;", -1003);
    fault("y5;;", -1003);
    fault("y5 ;", -1002);
    fault("w2;", -1001);
    fault("w+;", -1002);
    fault("w+12;", -1003);
    fault("w", -1001);
    fault("p;", -1001);
    fault("p1;", -1002);
    fault("p123,11;", -1003);
    fault("p1,;", -1003);
    fault("p1,1;", -1004);
    fault("p1,111;", -1005);
    fault("t;", -1001);
    fault("t00;", -1003);
    fault("t0011;", -1004);
    fault("b;", -1001);
    fault("b01;", -1002);
    fault("y99;w+9;b9;x", -1011);
    fault("y99;w+9;b9;y", -1012);
  }

  private static void laneRange() {
    fault("y2;", -2000);
    fault("y13;", -2000);
    fault("y0;", -2000);
    fault("y3;", 1);
    fault("y03;", 1);
    fault("y12;", 1);
    fault("w+4;", -2000);
    fault("w-4;", -2000);
    fault("w-3;", 1);
    fault("w+3;", 1);
    fault("w-0;", 1);
    fault("y5;p5,11;", -2003);
    fault("y5;p4,11;", 2);
    fault("p05,11;", 1);
    fault("p10,11;", -2000);
    fault("p1,01;", -2000);
    fault("p1,41;", -2000);
    fault("p1,30;", 1);
    fault("p1,10;p1,10;p1,10;p1,10;", 4);
    fault("p1,10;p1,10;p1,10;p1,10;p1,10;", -2024);
    fault("t601;", -2000);
    fault("t000;", -2000);
    fault("t599;", 1);
    fault("t001;t101;t201;t301;t401;t501;", 6);
    fault("t001;t101;t201;t301;t401;t501;t001;", -2030);
    fault("b1;", -2000);
    fault("p1,10;b1;", 2);
    fault("b1;p1,10;", -2000);
    fault("y4;b0;w+9;b5;", -2006);
  }

  private static void laneComes() {
    KeptUpByFeet x = told("p11,39;p2,10;t099;b1;");
    due("had", x.keep(0, 1, 0), 1);
    due("shorter", tell(x, "y5;"), 1);
    due("farther ones are in the last", x.player(0, 0), 4);
    due("nearer ones stay", x.player(1, 0), 2);
    due("COUNT stays", x.count(3), 1);
    due("a fault undoes all", tell(x, "y3;w+3;p0,11;t009;b0;b9;"), -2021);
    due("yards", x.count(0), 5);
    due("players", x.count(1), 2);
    due("touches", x.count(2), 1);
    due("ball", x.count(4), 1);
    due("longer, ball", tell(x, "y12;b0;w-2;"), 3);
    due("does not move", x.player(0, 0), 4);
    due("ball with 0", x.count(4), 0);
    due("COUNT is 0", x.count(3), 0);
    due("wind", x.count(5), 1);
    due("80 letters", tell(x, "b0;b0;b0;b0;b0;b0;b0;b0;b0;b0;b0;b0;b0;b0;b0;b0;b0;b0;b0;b0;b0;b0;b0;b0;b0;t001;"), 26);
  }

  private static void players() {
    KeptUpByFeet x = told(SCENE);
    int[][] want = {{0, 2, 9, 0}, {5, 3, 4, 0}, {9, 1, 0, 0}};
    for (int p = 0; p < 3; p++) for (int what = 0; what < 4; what++) due("player", x.player(p, what), want[p][what]);
    due("player 3", x.player(3, 9), -1);
    due("player -1", x.player(-1, 0), -1);
    due("what 4", x.player(2, 4), -2);
    due("what -1", x.player(2, -1), -2);
    due("-1s", x.count(11), 2);
    due("-2s", x.count(12), 2);
  }

  private static void touches() {
    KeptUpByFeet x = told(SCENE);
    int[][] want = {{0, 0, 5, 5, 12, 1}, {1, 0, 4, 2, 10, 1}, {2, 2, 9, 10, 20, 2},
        {3, 3, 3, 2, 10, 0}, {4, 7, 6, 7, 17, 9}, {5, 9, 8, 8, 12, 1}};
    for (int t = 0; t < 6; t++) for (int what = 0; what < 6; what++) due("touch " + t + " " + what, x.touch(t, what), want[t][what]);
    due("touch 6", x.touch(6, 9), -1);
    due("touch -1", x.touch(-1, 0), -1);
    due("what 6", x.touch(0, 6), -2);
    due("what -1", x.touch(0, -1), -2);
    x.wind(-3);
    int[] drift = {7, 10, -4, 10, 1, 7};
    for (int t = 0; t < 6; t++) due("drift in wind -3 of " + t, x.touch(t, 4), drift[t]);
    KeptUpByFeet low = told("t101;t301;t109;t309;t401;t461;");
    int[] air = {1, 2, 4, 5, 2, 2};
    for (int t = 0; t < 6; t++) due("air of " + t, low.touch(t, 3), air[t]);
    due("even spin goes back", low.touch(4, 4), 9);
    due("even spin goes back", low.touch(5, 4), 9);
    due("spin tires", low.touch(5, 5), 8);
  }

  private static void settings() {
    KeptUpByFeet x = told(SCENE);
    due("wind -4", x.wind(-4), -4);
    due("wind 4", x.wind(4), -6);
    due("wind 2 to -3", x.wind(-3), 5);
    due("wind -3 to 3", x.wind(3), 0);
    due("wind 3 to 0", x.wind(0), 6);
    due("move 3", x.move(3, -1), -1);
    due("move below", x.move(2, -1), -4);
    due("move above", x.move(2, 10), -6);
    due("move", x.move(2, 0), 9);
    due("move back", x.move(2, 9), 0);
    due("give 3", x.give(3), -1);
    due("give -1", x.give(-1), -1);
    due("give first", x.give(1), -9);
    due("give", x.give(2), 1);
    due("give same", x.give(2), 2);
    due("skill -1", x.skill(-1, 10), -1);
    due("skill below", x.skill(0, -1), -4);
    due("skill above", x.skill(0, 10), -6);
    due("skill", x.skill(0, 0), 9);
    due("skill", x.skill(0, 9), 0);
    int[] refusals = {4, 0, 0, 3, 0, 3};
    for (int i = 0; i < 6; i++) due("refusals " + i, x.count(11 + i), refusals[i]);
  }

  private static void errors() {
    KeptUpByFeet x = told(SCENE);
    int[][] other = {{0, 1, 3, 0, 3, 0}, {2, 3, 5, 1, 5, 2}, {4, 5, 7, 2, 7, 4}};
    for (int p = 0; p < 3; p++) for (int t = 0; t < 6; t++) {
      due("error of " + t + " by " + p, x.error(t, p, (p + 1) % 3), other[p][t]);
      due("error to himself", x.error(t, p, p), other[p][t] + (t == 5 ? 2 : 0));
    }
    due("error touch", x.error(6, 0, 0), -1);
    due("error one", x.error(0, 3, 0), -1);
    due("error other", x.error(0, 0, -1), -1);
    KeptUpByFeet y = told("p5,30;t499;t001;b0;");
    due("SPUN 9 9", y.error(0, 0, 0), 9);
    for (int i = 0; i < 9; i++) { y.keep(0, 0, 0); y.give(0); }
    due("tired to 99", y.player(0, 3), 99);
    due("SPUN 9 9, tired", y.error(0, 0, 0), 13);
    due("TOUCH, tired", y.error(1, 0, 0), 8);
  }

  private static void keeps() {
    KeptUpByFeet x = told(SCENE);
    due("keep nobody", x.keep(6, 0, 0), -1);
    due("keep nobody", x.keep(0, 3, 0), -1);
    due("keep down", x.keep(0, 0, 99), -3);
    x.give(1);
    due("keep below", x.keep(0, 0, -3), -4);
    due("keep above", x.keep(0, 0, 3), -6);
    due("keep least", x.keep(0, 0, Integer.MIN_VALUE), -4);
    due("keep most", x.keep(0, 0, Integer.MAX_VALUE), -6);
    due("keep", x.keep(0, 0, 1), 1);
    due("ball", x.count(4), 0);
    due("yard", x.player(0, 0), 3);
    due("tired 1", x.player(1, 3), 1);
    due("COUNT", x.count(3), 1);
    due("out of the lane", x.keep(2, 1, 0), 0);
    due("ball down", x.count(4), -9);
    due("COUNT 0", x.count(3), 0);
    due("stays", x.player(1, 0), 5);
    due("tired 0", x.player(0, 3), 2);
    due("less tired 1", x.player(1, 3), 0);
    due("not below 0", x.player(2, 3), 0);
    due("all tired", x.count(6), 2);
    x.give(0);
    due("CALM does not tire", x.keep(3, 0, 0), 1);
    due("nor rest", x.player(0, 3), 2);
    KeptUpByFeet y = told("p5,10;t001;b0;");
    due("at the reach", y.keep(0, 0, -1), 1);
    due("at the reach", y.keep(0, 0, 1), 2);
    due("beyond the reach", y.keep(0, 0, 2), 0);
    due("where he was", y.player(0, 0), 5);
    KeptUpByFeet z = told("y3;p1,39;p2,30;t009;b1;");
    due("last yard", z.keep(0, 0, 1), 1);
    due("yard", z.player(0, 0), 2);
    due("first yard", z.give(1), 0);
    due("first yard", z.keep(0, 1, -2), 1);
    due("beyond", z.keep(0, 1, -1), 0);
  }

  private static void odds(KeptUpByFeet x, int t, int one, int other, long above, long below) {
    due("again " + t + one + other, x.again(t, one, other, 0), above);
    due("again " + t + one + other, x.again(t, one, other, 1), below);
  }

  private static void agains() {
    KeptUpByFeet x = told(SCENE);
    odds(x, 0, 1, 0, 1, 1);
    odds(x, 1, 2, 0, 5, 11);
    odds(x, 0, 2, 2, 1, 3);
    odds(x, 2, 1, 2, 0, 1);
    odds(x, 1, 2, 1, 10, 11);
    odds(x, 2, 2, 0, 7, 15);
    odds(x, 2, 2, 1, 2, 15);
    due("again touch", x.again(6, 0, 0, 5), LONG + 1);
    due("again one", x.again(0, 3, 0, 0), LONG + 1);
    due("again other", x.again(0, 0, -1, 0), LONG + 1);
    due("again part", x.again(0, 0, 0, 2), LONG + 2);
    due("again part", x.again(0, 0, 0, -1), LONG + 2);
    due("-1s", x.count(11), 3);
    due("-2s", x.count(12), 2);
  }

  private static void bests() {
    due("best nothing", new KeptUpByFeet().best(), -9);
    due("best no touches", told("p0,11;b0;").best(), -9);
    due("best down", told(SCENE).best(), -9);
    due("best", scene(1).best(), 0);
    due("best", scene(2).best(), 31);
    due("best of none", told("w+3;p11,10;t009;t209;b0;").best(), 0);
    due("who down", told(SCENE).who(0), -9);
    due("who touch", told(SCENE).who(6), -1);
    due("who touch", new KeptUpByFeet().who(-1), -1);
    due("who", scene(2).who(1), 1);
    due("who, of several the least", scene(2).who(0), 0);
    due("who passes", told("p5,10;p6,10;t509;b0;").who(0), 1);
  }

  private static void ons() {
    KeptUpByFeet x = told("p0,10;t001;b0;");
    due("on 1", x.on(1, 0), 2);
    due("on 1", x.on(1, 1), 9);
    // In yard 0 two of nine, in yard 1 three of nine are had: 2 + 3 of 81.
    due("on 2", x.on(2, 0), 5);
    due("on 2", x.on(2, 1), 81);
    // Seven of nine are had by the second one, who keeps it surely then.
    KeptUpByFeet y = told("p5,10;p5,39;t001;t501;b0;");
    due("two on by the better", y.on(2, 0), 7);
    due("two on by the better", y.on(2, 1), 9);
    KeptUpByFeet down = told(SCENE);
    due("on down", down.on(1, 0), 0);
    due("on down", down.on(2, 1), 1);
    due("no touches", told("p0,11;b0;").on(2, 0), 0);
    due("no touches", told("p0,11;b0;").on(1, 1), 1);
    due("on 0", down.on(0, 5), LONG + 4);
    due("on 3", down.on(3, 5), LONG + 6);
    due("on part", down.on(1, 2), LONG + 2);
    due("on part", down.on(2, -1), LONG + 2);
    int[] refusals = {0, 2, 0, 1, 0, 1};
    for (int i = 0; i < 6; i++) due("refusals " + i, down.count(11 + i), refusals[i]);
  }

  private static void stands() {
    KeptUpByFeet x = scene(2);
    due("stand", x.stand(0, 2), 2);
    due("stays where he is", x.player(2, 0), 9);
    due("stand touch", x.stand(6, 0), -1);
    due("stand player", x.stand(0, 3), -1);
    due("stand of down", told(SCENE).stand(0, 0), -9);
    due("stand of down, touch", told(SCENE).stand(-1, 0), -1);
    // CALM by 2 has an ERROR of 2: from yard 2 on no error is out of the lane.
    due("stand calm", x.stand(3, 0), 2);
    // No yard is far enough from a drift of 14: all alike, the least.
    KeptUpByFeet y = told("y3;w+3;p1,19;t209;b0;");
    due("stand of none", y.stand(0, 0), 0);
  }

  private static void growth() {
    KeptUpByFeet x = told(SCENE);
    due("grows 1", x.grows(4, 1, 1), 5);
    due("grows 3", x.grows(4, 1, 3), 5);
    due("grows 4", x.grows(4, 1, 4), 6);
    due("grows 12", x.grows(4, 1, 12), 9);
    due("grows 20", x.grows(4, 1, 20), 9);
    due("grows pass", x.grows(5, 1, 20), 4);
    due("calm stays", x.grows(3, 2, 20), 2);
    due("grows touch", x.grows(6, 0, 0), -1);
    due("grows player", x.grows(0, 3, 0), -1);
    due("grows 0", x.grows(0, 0, 0), -4);
    due("grows 21", x.grows(0, 0, 21), -6);
    due("not tired by it", x.count(6), 0);
  }

  private static void worths() {
    due("worth of nothing", new KeptUpByFeet().worth(), -9);
    due("worth of no touches", told("p0,11;b0;").worth(), -9);
    due("worth down", told(SCENE).worth(), -9);
    KeptUpByFeet x = told("p0,10;t005;b0;");
    due("worth 0 to 1", x.worth(), 0);
    x.skill(0, 1);
    due("worth 1 to 2", x.worth(), 16);
    due("skill stays", x.player(0, 2), 1);
    x.skill(0, 9);
    due("worth of 9", x.worth(), 0);
    // With less error the wind carries it out more surely: not below 0.
    KeptUpByFeet y = told("w+3;p11,31;t005;b0;");
    due("had by an error", y.again(0, 0, 0, 0), 2);
    due("worth is not below 0", y.worth(), 0);
  }

  private static void windBits() {
    KeptUpByFeet x = told(SCENE);
    due("winds", x.winds(0, 0, 1, 7), 32);
    due("winds", x.winds(0, 1, 1, 8), 112);
    due("winds low", x.winds(1, 0, 1, 6), 127);
    due("winds low", x.winds(1, 0, 1, 7), 0);
    due("winds touch", x.winds(6, 0, 0, -1), -1);
    due("winds one", x.winds(0, 3, 0, 0), -1);
    due("winds other", x.winds(0, 0, 3, 0), -1);
    due("winds below", x.winds(0, 0, 0, -1), -4);
    due("winds above", x.winds(0, 0, 0, 10), -6);
    due("winds last", x.winds(0, 0, 2, 9), 8);
  }

  private static void rows() {
    KeptUpByFeet x = told("y3;p1,19;t009;t409;b0;");
    due("rows of 1", x.longest(1, 0), 2);
    due("rows of 2", x.longest(2, 0), 3);
    due("rows of 3", x.longest(3, 0), 4);
    due("least tired", x.longest(3, 1), 3);
    due("as it was", x.player(0, 0), 1);
    due("as it was", x.count(6), 0);
    due("longest 0", x.longest(0, 9), -4);
    due("longest 4", x.longest(4, 9), -6);
    due("longest what", x.longest(3, 2), -2);
    due("longest what", x.longest(3, -1), -2);
    KeptUpByFeet none = told("y3;w+3;p2,11;t009;b0;");
    due("no row", none.longest(1, 0), 0);
    due("no row", none.longest(1, 1), -9);
    KeptUpByFeet bare = told("p0,11;b0;");
    due("no touches", bare.longest(2, 0), 0);
    due("no touches", bare.longest(2, 1), -9);
    KeptUpByFeet down = told(SCENE);
    due("longest down, what", down.longest(1, 2), -2);
    due("longest down", down.longest(1, 0), -3);
    due("-3s", down.count(13), 1);
  }

  private static void judged(KeptUpByFeet x, int want, int... numbers) {
    for (int i = 0; i < numbers.length; i++) due("row", x.row(numbers[i]), i + 1);
    due("in the row", x.count(8), numbers.length);
    due("judge", x.judge(), want);
    due("the row has none", x.count(8), 0);
  }

  private static void judging() {
    KeptUpByFeet x = scene(1);
    judged(x, -9);
    judged(x, 3, 5, 114, 115, 9);
    judged(x, -9, 5, 114, 115);
    judged(x, 0, 604);
    judged(x, 0, 34);
    judged(x, 0, 7);
    judged(x, 0, 1);
    judged(x, 1, 2, 5, 999);
    judged(x, 1, 5, 214, 4);
    judged(x, -9, 6);
    due("as it was", x.count(4), 1);
    due("as it was", x.count(3), 0);
    due("as it was", x.count(6), 0);
    judged(told(SCENE), 0, 4);
    judged(told(SCENE), -9);
    KeptUpByFeet y = new KeptUpByFeet();
    due("row -1", y.row(-1), -4);
    due("row 1000", y.row(1000), -6);
    for (int i = 1; i <= 8; i++) due("row", y.row(i == 1 ? 0 : 999), i);
    due("row of 9", y.row(0), -6);
    due("row of 9 below", y.row(-1), -4);
    due("judge", y.judge(), 0);
    due("row anew", y.row(4), 1);
  }

  private static void seeding() {
    KeptUpByFeet x = told("p5,39;t009;b0;");
    for (int i = 1; i <= 3; i++) x.keep(0, 0, 0);
    due("COUNT goes on", x.seeds(40, 77), 43);
    due("as it was", x.count(3), 3);
    due("as it was", x.count(6), 3);
    due("seeds 0", x.seeds(0, 1), -4);
    due("seeds 41", x.seeds(41, 1), -6);
    due("seeds of nothing", new KeptUpByFeet().seeds(0, 1), -4);
    due("seeds of nothing", new KeptUpByFeet().seeds(1, 1), -3);
    due("seeds of no touches", told("p0,11;b0;").seeds(1, 1), -3);
    // From z 0 the DRAWS come of 0, 21468, 9988: the last is 7 below 9, so e is 3.
    KeptUpByFeet y = told("p5,30;t001;b0;");
    due("had at the reach", y.seeds(1, 0), 1);
    due("down at once", told("p5,20;t001;b0;").seeds(1, 0), 0);
    SeedsByHand hand = new SeedsByHand();
    for (int z = -200; z < 200; z++) due("seeds of " + z, y.seeds(40, z), hand.run(z));
    due("greatest seed", y.seeds(40, Integer.MAX_VALUE), hand.run(Integer.MAX_VALUE));
    due("least seed", y.seeds(40, Integer.MIN_VALUE), hand.run(Integer.MIN_VALUE));
  }

  /** One player of skill 0 and pace 3 from yard 5, one plain touch of height 1, no wind. */
  private static final class SeedsByHand {
    private long z;
    private int draw(int n) {
      z = (z * 1103515245L + 12345L) & 0xffffffffL;
      return (int) (((z & 0x7fffffffL) >> 16) % n);
    }
    private int run(int seed) {
      z = seed & 0xffffffffL;
      int yard = 5;
      for (int i = 0; i < 40; i++) {
        draw(1);
        draw(1);
        int error = 4 + i / 20;
        int e = draw(2 * error + 1) - error;
        if (e < -3 || e > 3 || yard + e < 0 || yard + e > 11) return i;
        yard += e;
      }
      return 40;
    }
  }

  private static void images() {
    KeptUpByFeet x = scene(1);
    due("restore of none", x.restore(), -3);
    due("keep", x.keep(0, 0, 1), 1);
    due("image", x.image(), 1);
    x.keep(3, 0, 0);
    x.wind(-3);
    x.skill(2, 7);
    x.move(1, 0);
    x.row(4);
    x.feed('y');
    due("COUNT", x.count(3), 2);
    due("refused", x.give(7), -1);
    due("restore", x.restore(), 1);
    int[] want = {10, 3, 6, 1, 0, 5, 1, 1, 1, -9, -9, 1, 0, 1};
    for (int what = 0; what < want.length; what++) due("restored " + what, x.count(what), want[what]);
    due("skill", x.player(2, 2), 0);
    due("yard", x.player(1, 0), 5);
    due("tired", x.player(1, 3), 1);
    x.lane();
    due("changed", tell(x, "y3;p0,11;b2;"), 3);
    due("changed", x.count(1), 4);
    due("restore again", x.restore(), 1);
    due("players", x.count(1), 3);
    due("yards", x.count(0), 10);
    due("ball", x.count(4), 0);
    x.keep(0, 2, 0);
    due("a later image", x.image(), x.count(3));
    due("is the one restored", x.restore(), x.count(3));
    due("down", x.count(4), -9);
    KeptUpByFeet y = new KeptUpByFeet();
    due("image of nothing", y.image(), 0);
    tell(y, SCENE);
    due("restored to nothing", y.restore(), 0);
    due("nobody", y.count(1), 0);
    due("no touches", y.count(2), 0);
    due("twelve", y.count(0), 12);
    due("touches come anew", tell(y, "t305;"), 1);
    due("KIND", y.touch(0, 0), 3);
  }

  private static void counts() {
    KeptUpByFeet x = scene(2);
    due("count -1", x.count(-1), -9);
    due("count 9", x.count(9), -9);
    due("count 10", x.count(10), -9);
    due("count 17", x.count(17), -9);
    due("count most", x.count(Integer.MAX_VALUE), -9);
    due("count least", x.count(Integer.MIN_VALUE), -9);
    for (int what = 11; what <= 16; what++) due("none refused", x.count(what), 0);
    due("calm", x.keep(3, 1, 0), 1);
    due("spun out", x.keep(4, 2, 0), 0);
    due("all tired", x.count(6), 9);
    due("who", x.count(4), -9);
  }

  public static void main(String[] args) {
    newObject();
    feed();
    laneForm();
    laneRange();
    laneComes();
    players();
    touches();
    settings();
    errors();
    keeps();
    agains();
    bests();
    ons();
    stands();
    growth();
    worths();
    windBits();
    rows();
    judging();
    seeding();
    images();
    counts();
    System.out.println(wrong == 0 ? "all answers are as due" : wrong + " answers are not as due");
    if (wrong != 0) System.exit(1);
  }
}
