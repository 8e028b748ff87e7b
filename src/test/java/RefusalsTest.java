import java.util.ArrayList;
import java.util.List;

/** Each refusal of each promise, in the order told; a twin object shows that it changes nothing but its own count. */
public final class RefusalsTest {
  private static final int NOBODY = -1, OTHER = -2, STATE = -3, BELOW = -4, ROOM = -6;
  private static final int LEAST = Integer.MIN_VALUE, MOST = Integer.MAX_VALUE;
  private static final long LONGS = 4000000000000000000L;
  private static int wrong = 0;

  private interface Call { long on(KeptUpByFeet x); }

  /** What an object has been through before the refused call. */
  private enum Scene {
    NEW { @Override void prepare(KeptUpByFeet x) { } },
    /** Three PLAYERS and six TOUCHES, TIRED and a COUNT, letters, a ROW, and an image of something else. */
    UP {
      @Override void prepare(KeptUpByFeet x) {
        tell(x, "y10;w+2;p0,29;p5,34;p9,10;t005;t104;t229;t333;t476;t598;b1;");
        x.keep(0, 0, 1);
        x.image();
        x.keep(3, 1, 0);
        x.keep(0, 1, -2);
        x.wind(-1);
        x.skill(2, 7);
        x.move(2, 8);
        feed(x, "y4;b1");
        x.row(314);
        x.row(7);
      }
    },
    DOWN {
      @Override void prepare(KeptUpByFeet x) {
        UP.prepare(x);
        x.wind(3);
        x.keep(2, 2, 0);
      }
    },
    NO_TOUCHES {
      @Override void prepare(KeptUpByFeet x) {
        tell(x, "y5;p2,25;p4,12;b1;");
        feed(x, "t001;");
        x.row(4);
      }
    },
    NO_PLAYERS { @Override void prepare(KeptUpByFeet x) { tell(x, "y5;t005;t104;"); } },
    /** Nothing has room: 80 letters, five PLAYERS, six TOUCHES, eight in the ROW. */
    FULL {
      @Override void prepare(KeptUpByFeet x) {
        tell(x, "p0,29;p1,34;p2,10;p3,25;p11,38;t005;t104;t229;t333;t476;t598;b4;");
        x.image();
        feed(x, "w+3;".repeat(20));
        for (int i = 0; i < 8; i++) x.row(304);
      }
    };

    abstract void prepare(KeptUpByFeet x);

    KeptUpByFeet make() {
      KeptUpByFeet x = new KeptUpByFeet();
      prepare(x);
      for (int what = 11; what <= 16; what++) due(this + " is made without a refusal", x.count(what), 0);
      return x;
    }
  }

  private static void due(String call, long got, long want) {
    if (got != want) { wrong++; System.out.println(call + " answered " + got + ", due is " + want); }
  }

  private static void feed(KeptUpByFeet x, String letters) {
    for (int i = 0; i < letters.length(); i++) due("feed " + letters + " at " + i, x.feed(letters.charAt(i)), i + 1);
  }

  private static void tell(KeptUpByFeet x, String letters) {
    feed(x, letters);
    due("lane of " + letters, Math.min(1, x.lane()), 1);
  }

  private static void lookAtLane(KeptUpByFeet x, List<Long> seen) {
    for (int what = 0; what <= 8; what++) seen.add((long) x.count(what));
    for (int p = 0; p < 5; p++) for (int what = 0; what < 4; what++) seen.add((long) x.player(p, what));
    for (int t = 0; t < 6; t++) for (int what = 0; what < 6; what++) seen.add((long) x.touch(t, what));
  }

  /** All that an object can tell of itself: as it is, its letters and ROW, its image. */
  private static List<Long> look(KeptUpByFeet x) {
    List<Long> seen = new ArrayList<>();
    lookAtLane(x, seen);
    seen.add((long) x.best());
    seen.add(x.on(1, 0));
    seen.add((long) x.worth());
    seen.add((long) x.seeds(40, 5));
    seen.add((long) x.judge());
    seen.add((long) x.lane());
    lookAtLane(x, seen);
    seen.add((long) x.restore());
    lookAtLane(x, seen);
    return seen;
  }

  private static void changesNothing(String name, Scene scene, int number, long answer, Call call) {
    KeptUpByFeet x = scene.make();
    KeptUpByFeet twin = scene.make();
    for (int i = 1; i <= 2; i++) {
      due(scene + ": " + name, call.on(x), answer);
      for (int k = 1; k <= 6; k++) due(scene + ": count(1" + k + ") behind " + name, x.count(10 + k), k == -number ? i : 0);
    }
    List<Long> seen = look(x);
    List<Long> before = look(twin);
    if (!seen.equals(before)) {
      wrong++;
      System.out.println(scene + ": " + name + " changed " + before + " to " + seen);
    }
  }

  private static void refused(String name, Scene scene, int number, Call call) {
    changesNothing(name, scene, number, number, call);
  }

  private static void refusedLong(String name, Scene scene, int number, Call call) {
    changesNothing(name, scene, number, LONGS - number, call);
  }

  /** Answered with what looks like a refusal, but is none: nothing is counted. */
  private static void answered(String name, Scene scene, long answer, Call call) {
    changesNothing(name, scene, 0, answer, call);
  }

  private static final int[] NOT_OF_3 = {-1, 3, LEAST, MOST};
  private static final int[] NOT_OF_6 = {-1, 6, LEAST, MOST};
  private static final int[] NOT_OF_2 = {-1, 2, LEAST, MOST};

  private static void feeds() {
    for (Scene s : Scene.values()) {
      refused("feed(-1)", s, BELOW, x -> x.feed(-1));
      refused("feed(least)", s, BELOW, x -> x.feed(LEAST));
      refused("feed(256)", s, ROOM, x -> x.feed(256));
      refused("feed(most)", s, ROOM, x -> x.feed(MOST));
    }
    refused("feed(0) of 80", Scene.FULL, ROOM, x -> x.feed(0));
    refused("feed(255) of 80", Scene.FULL, ROOM, x -> x.feed(255));
  }

  private static void playersAndTouches() {
    for (int p : NOT_OF_3) {
      refused("player(" + p + ", 0)", Scene.UP, NOBODY, x -> x.player(p, 0));
      refused("player(" + p + ", 4)", Scene.UP, NOBODY, x -> x.player(p, 4));
      refused("player(" + p + ", -1)", Scene.DOWN, NOBODY, x -> x.player(p, -1));
    }
    for (int what : new int[] {-1, 4, LEAST, MOST}) {
      refused("player(0, " + what + ")", Scene.UP, OTHER, x -> x.player(0, what));
      refused("player(2, " + what + ")", Scene.UP, OTHER, x -> x.player(2, what));
      refused("player(0, " + what + ")", Scene.NEW, NOBODY, x -> x.player(0, what));
    }
    refused("player(5, 0)", Scene.FULL, NOBODY, x -> x.player(5, 0));
    refused("player(0, 0)", Scene.NO_PLAYERS, NOBODY, x -> x.player(0, 0));
    for (int t : NOT_OF_6) {
      refused("touch(" + t + ", 0)", Scene.UP, NOBODY, x -> x.touch(t, 0));
      refused("touch(" + t + ", 6)", Scene.UP, NOBODY, x -> x.touch(t, 6));
      refused("touch(" + t + ", -1)", Scene.DOWN, NOBODY, x -> x.touch(t, -1));
    }
    for (int what : NOT_OF_6) {
      refused("touch(0, " + what + ")", Scene.UP, OTHER, x -> x.touch(0, what));
      refused("touch(5, " + what + ")", Scene.UP, OTHER, x -> x.touch(5, what));
      refused("touch(0, " + what + ")", Scene.NEW, NOBODY, x -> x.touch(0, what));
    }
    refused("touch(0, 0)", Scene.NO_TOUCHES, NOBODY, x -> x.touch(0, 0));
    refused("touch(2, 0)", Scene.NO_PLAYERS, NOBODY, x -> x.touch(2, 0));
  }

  private static void settings() {
    for (Scene s : Scene.values()) {
      refused("wind(-4)", s, BELOW, x -> x.wind(-4));
      refused("wind(least)", s, BELOW, x -> x.wind(LEAST));
      refused("wind(4)", s, ROOM, x -> x.wind(4));
      refused("wind(most)", s, ROOM, x -> x.wind(MOST));
    }
    for (int p : NOT_OF_3) {
      refused("move(" + p + ", 0)", Scene.UP, NOBODY, x -> x.move(p, 0));
      refused("move(" + p + ", -1)", Scene.UP, NOBODY, x -> x.move(p, -1));
      refused("move(" + p + ", 10)", Scene.UP, NOBODY, x -> x.move(p, 10));
      refused("give(" + p + ")", Scene.UP, NOBODY, x -> x.give(p));
      refused("give(" + p + ")", Scene.DOWN, NOBODY, x -> x.give(p));
      refused("skill(" + p + ", 0)", Scene.UP, NOBODY, x -> x.skill(p, 0));
      refused("skill(" + p + ", -1)", Scene.UP, NOBODY, x -> x.skill(p, -1));
      refused("skill(" + p + ", 10)", Scene.UP, NOBODY, x -> x.skill(p, 10));
    }
    refused("move(0, 0)", Scene.NEW, NOBODY, x -> x.move(0, 0));
    refused("give(0)", Scene.NEW, NOBODY, x -> x.give(0));
    refused("skill(0, 0)", Scene.NEW, NOBODY, x -> x.skill(0, 0));
    refused("give(5)", Scene.FULL, NOBODY, x -> x.give(5));
    for (int p = 0; p < 3; p++) {
      int q = p;
      refused("move(" + p + ", -1)", Scene.UP, BELOW, x -> x.move(q, -1));
      refused("move(" + p + ", least)", Scene.UP, BELOW, x -> x.move(q, LEAST));
      refused("move(" + p + ", 10)", Scene.UP, ROOM, x -> x.move(q, 10));
      refused("move(" + p + ", most)", Scene.UP, ROOM, x -> x.move(q, MOST));
      refused("skill(" + p + ", -1)", Scene.UP, BELOW, x -> x.skill(q, -1));
      refused("skill(" + p + ", least)", Scene.UP, BELOW, x -> x.skill(q, LEAST));
      refused("skill(" + p + ", 10)", Scene.UP, ROOM, x -> x.skill(q, 10));
      refused("skill(" + p + ", most)", Scene.UP, ROOM, x -> x.skill(q, MOST));
    }
    refused("move(1, 5)", Scene.NO_TOUCHES, ROOM, x -> x.move(1, 5));
    refused("move(4, 12)", Scene.FULL, ROOM, x -> x.move(4, 12));
  }

  private static void errorsAndAgains() {
    for (Scene s : new Scene[] {Scene.UP, Scene.DOWN}) {
      for (int t : NOT_OF_6) {
        refused("error(" + t + ", 0, 1)", s, NOBODY, x -> x.error(t, 0, 1));
        refusedLong("again(" + t + ", 0, 1, 0)", s, NOBODY, x -> x.again(t, 0, 1, 0));
        refusedLong("again(" + t + ", 0, 1, 2)", s, NOBODY, x -> x.again(t, 0, 1, 2));
      }
      for (int p : NOT_OF_3) {
        refused("error(0, " + p + ", 1)", s, NOBODY, x -> x.error(0, p, 1));
        refused("error(0, 1, " + p + ")", s, NOBODY, x -> x.error(0, 1, p));
        refusedLong("again(0, " + p + ", 1, 0)", s, NOBODY, x -> x.again(0, p, 1, 0));
        refusedLong("again(0, 1, " + p + ", 1)", s, NOBODY, x -> x.again(0, 1, p, 1));
        refusedLong("again(0, " + p + ", 1, -1)", s, NOBODY, x -> x.again(0, p, 1, -1));
        refusedLong("again(0, 1, " + p + ", 2)", s, NOBODY, x -> x.again(0, 1, p, 2));
      }
      for (int part : NOT_OF_2) refusedLong("again(0, 1, 2, " + part + ")", s, OTHER, x -> x.again(0, 1, 2, part));
    }
    for (Scene s : new Scene[] {Scene.NEW, Scene.NO_TOUCHES, Scene.NO_PLAYERS}) {
      refused("error(0, 0, 0)", s, NOBODY, x -> x.error(0, 0, 0));
      refusedLong("again(0, 0, 0, 0)", s, NOBODY, x -> x.again(0, 0, 0, 0));
      refusedLong("again(0, 0, 0, 2)", s, NOBODY, x -> x.again(0, 0, 0, 2));
    }
  }

  private static void keeps() {
    for (Scene s : new Scene[] {Scene.UP, Scene.DOWN}) for (int e : new int[] {0, -99, 99}) {
      for (int t : NOT_OF_6) refused("keep(" + t + ", 0, " + e + ")", s, NOBODY, x -> x.keep(t, 0, e));
      for (int p : NOT_OF_3) refused("keep(0, " + p + ", " + e + ")", s, NOBODY, x -> x.keep(0, p, e));
    }
    for (Scene s : new Scene[] {Scene.NEW, Scene.NO_TOUCHES, Scene.NO_PLAYERS}) refused("keep(0, 0, 0)", s, NOBODY, x -> x.keep(0, 0, 0));
    for (int e : new int[] {0, -99, 99, LEAST, MOST}) refused("keep(0, 0, " + e + ")", Scene.DOWN, STATE, x -> x.keep(0, 0, e));
    // The one who has it is of SKILL 4: an ERROR of 2 of TOUCH and PASS, of PASS to himself 4, of CALM 1.
    int[][] most = {{0, 0, 2}, {0, 1, 2}, {5, 0, 2}, {5, 1, 4}, {3, 2, 1}, {1, 2, 3}, {2, 2, 5}, {4, 1, 5}};
    for (int[] m : most) {
      String call = "keep(" + m[0] + ", " + m[1] + ", e beyond " + m[2] + ")";
      refused(call, Scene.UP, BELOW, x -> x.keep(m[0], m[1], -m[2] - 1));
      refused(call, Scene.UP, BELOW, x -> x.keep(m[0], m[1], LEAST));
      refused(call, Scene.UP, ROOM, x -> x.keep(m[0], m[1], m[2] + 1));
      refused(call, Scene.UP, ROOM, x -> x.keep(m[0], m[1], MOST));
      for (int k = 0; k < 2; k++) {
        KeptUpByFeet x = Scene.UP.make();
        due("count", x.count(4), 1);
        due(call + " is taken at it", x.keep(m[0], m[1], k == 0 ? m[2] : -m[2]) < 0 ? 1 : 0, 0);
      }
    }
  }

  private static void ons() {
    for (Scene s : Scene.values()) {
      for (int part : new int[] {0, 1, -1, 2, LEAST, MOST}) {
        refusedLong("on(0, " + part + ")", s, BELOW, x -> x.on(0, part));
        refusedLong("on(least, " + part + ")", s, BELOW, x -> x.on(LEAST, part));
        refusedLong("on(3, " + part + ")", s, ROOM, x -> x.on(3, part));
        refusedLong("on(most, " + part + ")", s, ROOM, x -> x.on(MOST, part));
      }
      for (int part : NOT_OF_2) for (int n = 1; n <= 2; n++) {
        int m = n;
        refusedLong("on(" + n + ", " + part + ")", s, OTHER, x -> x.on(m, part));
      }
    }
  }

  private static void standsAndGrows() {
    for (Scene s : new Scene[] {Scene.UP, Scene.DOWN}) {
      for (int t : NOT_OF_6) {
        refused("stand(" + t + ", 0)", s, NOBODY, x -> x.stand(t, 0));
        refused("who(" + t + ")", s, NOBODY, x -> x.who(t));
        for (int n : new int[] {1, 0, 21}) refused("grows(" + t + ", 0, " + n + ")", s, NOBODY, x -> x.grows(t, 0, n));
      }
      for (int p : NOT_OF_3) {
        refused("stand(0, " + p + ")", s, NOBODY, x -> x.stand(0, p));
        for (int n : new int[] {1, 0, 21}) refused("grows(0, " + p + ", " + n + ")", s, NOBODY, x -> x.grows(0, p, n));
      }
      refused("grows(0, 0, 0)", s, BELOW, x -> x.grows(0, 0, 0));
      refused("grows(5, 2, least)", s, BELOW, x -> x.grows(5, 2, LEAST));
      refused("grows(0, 0, 21)", s, ROOM, x -> x.grows(0, 0, 21));
      refused("grows(5, 2, most)", s, ROOM, x -> x.grows(5, 2, MOST));
    }
    for (Scene s : new Scene[] {Scene.NEW, Scene.NO_TOUCHES, Scene.NO_PLAYERS}) {
      refused("stand(0, 0)", s, NOBODY, x -> x.stand(0, 0));
      refused("grows(0, 0, 1)", s, NOBODY, x -> x.grows(0, 0, 1));
    }
    refused("who(0)", Scene.NEW, NOBODY, x -> x.who(0));
    refused("who(0)", Scene.NO_TOUCHES, NOBODY, x -> x.who(0));
    refused("who(2)", Scene.NO_PLAYERS, NOBODY, x -> x.who(2));
  }

  private static void winds() {
    for (Scene s : new Scene[] {Scene.UP, Scene.DOWN}) {
      for (int yard : new int[] {0, -1, 10}) {
        for (int t : NOT_OF_6) refused("winds(" + t + ", 0, 1, " + yard + ")", s, NOBODY, x -> x.winds(t, 0, 1, yard));
        for (int p : NOT_OF_3) {
          refused("winds(0, " + p + ", 1, " + yard + ")", s, NOBODY, x -> x.winds(0, p, 1, yard));
          refused("winds(0, 1, " + p + ", " + yard + ")", s, NOBODY, x -> x.winds(0, 1, p, yard));
        }
      }
      refused("winds(0, 0, 1, -1)", s, BELOW, x -> x.winds(0, 0, 1, -1));
      refused("winds(0, 0, 1, least)", s, BELOW, x -> x.winds(0, 0, 1, LEAST));
      refused("winds(0, 0, 1, 10)", s, ROOM, x -> x.winds(0, 0, 1, 10));
      refused("winds(0, 0, 1, most)", s, ROOM, x -> x.winds(0, 0, 1, MOST));
    }
    for (Scene s : new Scene[] {Scene.NEW, Scene.NO_TOUCHES, Scene.NO_PLAYERS}) refused("winds(0, 0, 0, 0)", s, NOBODY, x -> x.winds(0, 0, 0, 0));
  }

  private static void longests() {
    for (Scene s : Scene.values()) for (int what : new int[] {0, 1, -1, 2}) {
      refused("longest(0, " + what + ")", s, BELOW, x -> x.longest(0, what));
      refused("longest(least, " + what + ")", s, BELOW, x -> x.longest(LEAST, what));
      refused("longest(4, " + what + ")", s, ROOM, x -> x.longest(4, what));
      refused("longest(most, " + what + ")", s, ROOM, x -> x.longest(MOST, what));
    }
    for (Scene s : Scene.values()) for (int what : NOT_OF_2) {
      refused("longest(1, " + what + ")", s, OTHER, x -> x.longest(1, what));
      refused("longest(3, " + what + ")", s, OTHER, x -> x.longest(3, what));
    }
    for (Scene s : new Scene[] {Scene.NEW, Scene.DOWN, Scene.NO_PLAYERS}) for (int what = 0; what <= 1; what++) {
      int w = what;
      refused("longest(1, " + what + ")", s, STATE, x -> x.longest(1, w));
      refused("longest(3, " + what + ")", s, STATE, x -> x.longest(3, w));
    }
  }

  private static void rowsAndSeeds() {
    for (Scene s : Scene.values()) {
      refused("row(-1)", s, BELOW, x -> x.row(-1));
      refused("row(least)", s, BELOW, x -> x.row(LEAST));
      refused("row(1000)", s, ROOM, x -> x.row(1000));
      refused("row(most)", s, ROOM, x -> x.row(MOST));
      refused("seeds(0, 1)", s, BELOW, x -> x.seeds(0, 1));
      refused("seeds(least, 1)", s, BELOW, x -> x.seeds(LEAST, 1));
      refused("seeds(41, 1)", s, ROOM, x -> x.seeds(41, 1));
      refused("seeds(most, 1)", s, ROOM, x -> x.seeds(MOST, 1));
    }
    refused("row(0) of 8", Scene.FULL, ROOM, x -> x.row(0));
    refused("row(999) of 8", Scene.FULL, ROOM, x -> x.row(999));
    for (Scene s : new Scene[] {Scene.NEW, Scene.DOWN, Scene.NO_TOUCHES, Scene.NO_PLAYERS}) {
      refused("seeds(1, 0)", s, STATE, x -> x.seeds(1, 0));
      refused("seeds(40, least)", s, STATE, x -> x.seeds(40, LEAST));
    }
    for (Scene s : new Scene[] {Scene.NEW, Scene.NO_TOUCHES, Scene.NO_PLAYERS}) refused("restore()", s, STATE, x -> x.restore());
  }

  private static void notRefused() {
    for (Scene s : new Scene[] {Scene.NEW, Scene.DOWN, Scene.NO_TOUCHES, Scene.NO_PLAYERS}) {
      answered("best()", s, -9, x -> x.best());
      answered("worth()", s, -9, x -> x.worth());
      for (int n = 1; n <= 2; n++) for (int part = 0; part <= 1; part++) {
        int m = n;
        int q = part;
        answered("on(" + n + ", " + part + ")", s, part, x -> x.on(m, q));
      }
    }
    answered("stand(0, 0)", Scene.DOWN, -9, x -> x.stand(0, 0));
    answered("who(0)", Scene.DOWN, -9, x -> x.who(0));
    answered("who(1)", Scene.NO_PLAYERS, -9, x -> x.who(1));
    answered("longest(1, 1)", Scene.NO_TOUCHES, -9, x -> x.longest(1, 1));
    answered("longest(3, 0)", Scene.NO_TOUCHES, 0, x -> x.longest(3, 0));
    for (Scene s : Scene.values()) for (int what : new int[] {-1, 9, 10, 17, LEAST, MOST}) answered("count(" + what + ")", s, -9, x -> x.count(what));
    answered("judge()", Scene.NEW, -9, x -> x.judge());
    answered("lane()", Scene.NEW, -1000, x -> x.lane());
    for (String letters : new String[] {"q", "y", "y2;", "y13;", "w+4;", "b0;", "t600;", "t000;", "p12,11;"}) {
      KeptUpByFeet x = new KeptUpByFeet();
      feed(x, letters);
      due("lane of " + letters + " is a FAULT", x.lane() < 0 ? 1 : 0, 1);
      for (int what = 11; what <= 16; what++) due("nothing is counted by " + letters, x.count(what), 0);
    }
  }

  /** Calls that answer in mind change nothing at all; a lane, a row and a judge have tests of their own. */
  private static void inMind() {
    for (Scene s : new Scene[] {Scene.UP, Scene.FULL}) {
      KeptUpByFeet x = s.make();
      x.best();
      for (int n = 1; n <= 2; n++) x.on(n, 0);
      x.worth();
      for (int t = 0; t < 6; t++) {
        x.who(t);
        for (int p = 0; p < 3; p++) {
          x.stand(t, p);
          x.grows(t, p, 20);
          x.error(t, p, 0);
          x.again(t, p, 0, 0);
          x.winds(t, p, 0, 0);
        }
      }
      for (int n = 1; n <= 3; n++) x.longest(n, 1);
      for (int z = 0; z < 20; z++) x.seeds(40, z);
      for (int what = 11; what <= 16; what++) due(s + ": nothing is refused in mind", x.count(what), 0);
      due(s + ": nothing changed in mind", look(x).equals(look(s.make())) ? 1 : 0, 1);
    }
  }

  /** Each kind has a count of its own; of -5 there is none. */
  private static void countsOfTheirOwn() {
    KeptUpByFeet x = Scene.UP.make();
    for (int i = 0; i < 2; i++) x.give(3);
    for (int i = 0; i < 3; i++) x.player(0, 4);
    for (int i = 0; i < 5; i++) x.wind(-4);
    for (int i = 0; i < 7; i++) x.wind(4);
    x.image();
    KeptUpByFeet y = Scene.DOWN.make();
    for (int i = 0; i < 4; i++) y.longest(1, 0);
    y.again(9, 0, 0, 0);
    y.on(1, 2);
    y.on(0, 0);
    y.on(3, 0);
    int[] want = {2, 3, 0, 5, 0, 7};
    int[] other = {1, 1, 4, 1, 0, 1};
    for (int k = 0; k < 6; k++) {
      due("count(" + (11 + k) + ")", x.count(11 + k), want[k]);
      due("count(" + (11 + k) + ") of another object", y.count(11 + k), other[k]);
    }
    x.restore();
    for (int k = 0; k < 6; k++) due("count(" + (11 + k) + ") behind restore", x.count(11 + k), want[k]);
  }

  public static void main(String[] args) {
    feeds();
    playersAndTouches();
    settings();
    errorsAndAgains();
    keeps();
    ons();
    standsAndGrows();
    winds();
    longests();
    rowsAndSeeds();
    notRefused();
    inMind();
    countsOfTheirOwn();
    System.out.println(wrong == 0 ? "all answers are as due" : wrong + " answers are not as due");
    if (wrong != 0) System.exit(1);
  }
}
