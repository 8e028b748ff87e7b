/** Runs of 512 calls on one object: what a call changed is seen by all later ones; answers by plain reckoning, not by a model. */
public final class RunsTest {
  private static final int CALLS = 512;
  private static int wrong = 0;

  private final KeptUpByFeet x = new KeptUpByFeet();
  private final String name;
  private int calls = 0;

  private RunsTest(String name) { this.name = name; }

  private void due(String call, long got, long want) {
    calls++;
    if (got != want) { wrong++; System.out.println(name + ", call " + calls + ": " + call + " answered " + got + ", due is " + want); }
  }

  private boolean hasRoomFor(int more) { return calls + more <= CALLS; }

  private void feed(String letters, int before) {
    for (int i = 0; i < letters.length(); i++) due("feed(" + letters.charAt(i) + ")", x.feed(letters.charAt(i)), before + i + 1);
  }

  private void tell(String letters, int want) {
    feed(letters, 0);
    due("lane of " + letters, x.lane(), want);
  }

  /** What is left of the 512 calls asks the same again: the last call is as good as the first. */
  private void end(int what, int want) {
    while (calls < CALLS) due("count(" + what + ")", x.count(what), want);
    if (calls != CALLS) { wrong++; System.out.println(name + " has " + calls + " calls"); }
  }

  private static void alone() {
    RunsTest r = new RunsTest("alone");
    KeptUpByFeet x = r.x;
    r.tell("p5,39;t009;b0;", 3);
    int n = 0;
    while (r.hasRoomFor(7)) {
      n++;
      int tired = Math.min(99, n);
      r.due("keep", x.keep(0, 0, 0), n);
      r.due("COUNT", x.count(3), n);
      r.due("TIRED", x.player(0, 3), tired);
      r.due("ERROR", x.error(0, 0, 0), tired / 20);
      r.due("GROWS", x.grows(0, 0, 20), Math.min(99, tired + 19) / 20);
      r.due("least TIRED of three more", x.longest(3, 1), Math.min(99, tired + 3));
      r.due("odds, by one in the midst", x.again(0, 0, 0, 0), 1);
    }
    r.end(3, n);
  }

  /** He who touched it is 1 more TIRED, the other 1 less: who has it is never TIRED. */
  private static void toAndFro() {
    RunsTest r = new RunsTest("to and fro");
    KeptUpByFeet x = r.x;
    r.tell("p4,39;p7,39;t009;b0;", 4);
    int n = 0;
    while (r.hasRoomFor(5)) {
      int to = 1 - n % 2;
      n++;
      r.due("keep", x.keep(0, to, 0), n);
      r.due("who has it", x.count(4), to);
      r.due("TIRED of him", x.player(to, 3), 0);
      r.due("TIRED of the other", x.player(1 - to, 3), 1);
      r.due("all TIRED", x.count(6), 1);
    }
    r.end(3, n);
  }

  private static int windsNear(int way, int error) {
    int bits = 0;
    for (int v = -3; v <= 3; v++) if (v >= way - error && v <= way + error) bits |= 1 << (v + 3);
    return bits;
  }

  /** AIR 4: DRIFT is the WIND; each WIND carries it so far, the other way's carries it back. */
  private static void thereAndBack() {
    RunsTest r = new RunsTest("there and back");
    KeptUpByFeet x = r.x;
    r.tell("p5,19;t004;b0;", 3);
    int n = 0;
    int yard = 5;
    int before = 0;
    while (r.hasRoomFor(10)) {
      int v = n / 2 % 7 - 3;
      for (int way : new int[] {v, -v}) {
        r.due("wind(" + way + ")", x.wind(way), before + 3);
        before = way;
        r.due("DRIFT", x.touch(0, 4), 10 + way);
        r.due("winds", x.winds(0, 0, 0, yard + way), windsNear(way, Math.min(99, n) / 20));
        n++;
        yard += way;
        r.due("keep", x.keep(0, 0, 0), n);
        r.due("YARD", x.player(0, 0), yard);
      }
    }
    r.end(5, before + 3);
  }

  /** Each time an image, some touches, and back: TIRED, YARD, COUNT as they were, letters and ROW as they became. */
  private static void imagesAndBack() {
    RunsTest r = new RunsTest("images and back");
    KeptUpByFeet x = r.x;
    r.due("restore of none", x.restore(), -3);
    r.tell("p5,39;p9,16;t009;t249;b0;", 5);
    int count = 0;
    int letters = 0;
    int row = 0;
    while (r.hasRoomFor(24)) {
      r.due("image", x.image(), count);
      for (int more = 1; more <= 4; more++) r.due("keep", x.keep(1, more % 2, 0), count + more);
      r.due("wind", x.wind(3), 3);
      r.due("move", x.move(1, 0), 9);
      r.due("skill", x.skill(1, 0), 6);
      letters++;
      r.due("feed", x.feed('y'), letters);
      row++;
      r.due("row", x.row(4), row);
      r.due("COUNT", x.count(3), count + 4);
      r.due("restore", x.restore(), count);
      r.due("WIND", x.count(5), 3);
      r.due("YARD", x.player(1, 0), 9);
      r.due("SKILL", x.player(1, 2), 6);
      r.due("who has it", x.count(4), 0);
      r.due("TIRED", x.player(0, 3), count);
      r.due("letters", x.count(7), letters);
      r.due("in the ROW", x.count(8), row);
      if (row == 8) {
        r.due("a ninth", x.row(4), -6);
        r.due("judge", x.judge(), -9);
        row = 0;
      }
      count++;
      r.due("keep", x.keep(0, 0, 0), count);
    }
    r.due("restores -3", x.count(13), 1);
    r.due("letters are no LANE", x.lane(), -1001);
    r.end(3, count);
  }

  /** A LANE told letter by letter between other calls: nothing of it comes before lane(). */
  private static void betweenOtherCalls() {
    RunsTest r = new RunsTest("between other calls");
    KeptUpByFeet x = r.x;
    r.tell("p5,39;t009;b0;", 3);
    String[] told = {"y7;w+3;", "p6,21;y8;", "t333;w-2;", "p2,2;", "y9;b5;", "p7,35;p0,10;p1,11;", "p0,11;", "b4;w+0;y12;"};
    int[] want = {2, 2, 2, -1004, -2003, 3, -2000, 3};
    int[] yards = {7, 8, 8, 8, 8, 8, 8, 12};
    int[] players = {1, 2, 2, 2, 2, 5, 5, 5};
    int[] touches = {1, 1, 2, 2, 2, 2, 2, 2};
    int[] wind = {3, 3, -2, -2, -2, -2, -2, 0};
    int[] before = {12, 1, 1, 0};
    for (int i = 0; i < told.length; i++) {
      for (int k = 0; k < told[i].length(); k++) {
        r.due("feed", x.feed(told[i].charAt(k)), k + 1);
        r.due("YARDS", x.count(0), before[0]);
        r.due("PLAYERS", x.count(1), before[1]);
        r.due("TOUCHES", x.count(2), before[2]);
        r.due("WIND", x.count(5), before[3] + 3);
        r.due("letters", x.count(7), k + 1);
      }
      r.due("lane of " + told[i], x.lane(), want[i]);
      before = new int[] {yards[i], players[i], touches[i], wind[i]};
    }
    r.due("who has it", x.count(4), 4);
    r.due("the last one of the first lane", x.player(0, 0), 5);
    r.end(0, 12);
  }

  /** Refusals of every number between touches that go on as if there were none. */
  private static void refusalsBetween() {
    RunsTest r = new RunsTest("refusals between");
    KeptUpByFeet x = r.x;
    r.tell("p5,39;t309;b0;", 3);
    int n = 0;
    while (r.hasRoomFor(20)) {
      n++;
      r.due("-1", x.keep(1, 0, 0), -1);
      r.due("-1", x.again(0, 0, 1, 9), 4000000000000000001L);
      r.due("-2", x.player(0, 4), -2);
      r.due("-3", x.restore(), -3);
      r.due("-4", x.keep(0, 0, -1), -4);
      r.due("-4", x.on(0, 9), 4000000000000000004L);
      r.due("-6", x.keep(0, 0, 1), -6);
      r.due("-6", x.on(3, 9), 4000000000000000006L);
      r.due("-6", x.seeds(41, 1), -6);
      r.due("keep", x.keep(0, 0, 0), n);
      r.due("count(11)", x.count(11), 2 * n);
      r.due("count(12)", x.count(12), n);
      r.due("count(13)", x.count(13), n);
      r.due("count(14)", x.count(14), 2 * n);
      r.due("count(15)", x.count(15), 0);
      r.due("count(16)", x.count(16), 3 * n);
      r.due("COUNT", x.count(3), n);
      r.due("TIRED", x.player(0, 3), 0);
      r.due("YARD", x.player(0, 0), 5);
      r.due("-9 is none", x.count(17), -9);
    }
    r.end(16, 3 * n);
  }

  /** Up, some touches, down, given anew: COUNT, the BALL and what is asked of it follow each time. */
  private static void downAndGivenAnew() {
    RunsTest r = new RunsTest("down and given anew");
    KeptUpByFeet x = r.x;
    r.tell("p5,18;p6,38;t001;t302;", 4);
    int had = 0;
    while (r.hasRoomFor(24)) {
      r.due("best", x.best(), -9);
      r.due("on", x.on(2, 1), 1);
      r.due("who", x.who(0), -9);
      r.due("stand", x.stand(0, 0), -9);
      r.due("worth", x.worth(), -9);
      r.due("longest", x.longest(1, 0), -3);
      r.due("seeds", x.seeds(1, 1), -3);
      r.due("keep", x.keep(0, 0, 0), -3);
      r.due("give", x.give(0), -9);
      r.due("COUNT", x.count(3), 0);
      r.due("best", x.best(), 0);
      r.due("on", x.on(2, 0), 1);
      r.due("who", x.who(1), 0);
      r.due("seeds", x.seeds(40, 7), 40);
      for (int i = 1; i <= had % 5; i++) r.due("keep", x.keep(1, i % 2, 0), i);
      r.due("COUNT", x.count(3), had % 5);
      r.due("give", x.give(1), had % 5 % 2);
      // To the one in the last YARD any error on is out of the LANE; of SKILL 6 there is an ERROR of 1.
      r.due("move", x.move(0, 11), 5);
      r.due("skill", x.skill(1, 6), 8);
      r.due("out of the LANE", x.keep(0, 0, 1), 0);
      r.due("skill", x.skill(1, 8), 6);
      r.due("move", x.move(0, 5), 11);
      had++;
    }
    r.end(4, -9);
  }

  public static void main(String[] args) {
    alone();
    toAndFro();
    thereAndBack();
    imagesAndBack();
    betweenOtherCalls();
    refusalsBetween();
    downAndGivenAnew();
    System.out.println(wrong == 0 ? "all answers are as due" : wrong + " answers are not as due");
    if (wrong != 0) System.exit(1);
  }
}
