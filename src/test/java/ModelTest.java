import java.math.BigInteger;
import java.util.ArrayList;
import java.util.List;
import java.util.Random;
import java.util.regex.Matcher;
import java.util.regex.Pattern;

/** Seeded runs of 512 calls against a model that is as plain as can be: kinds as a tree, every error tried. */
public final class ModelTest {
  private static final int RUNS = 600;
  private static final int CALLS = 512;

  static class Touch {
    final int kind, figure, height;
    Touch(int kind, int figure, int height) { this.kind = kind; this.figure = figure; this.height = height; }
    int air() { return height; }
    int error(Player by, Player to) { return Math.max(0, 4 + by.tired / 20 - by.skill / 2); }
    int drift(int wind) { return wind * air() / 4; }
    int tires() { return 1; }
    static Touch of(int kind, int figure, int height) {
      switch (kind) {
        case 1: return new Low(kind, figure, height);
        case 2: return new High(kind, figure, height);
        case 3: return new Calm(kind, figure, height);
        case 4: return new Spun(kind, figure, height);
        case 5: return new Pass(kind, figure, height);
        default: return new Touch(kind, figure, height);
      }
    }
  }

  static class Low extends Touch {
    Low(int k, int f, int h) { super(k, f, h); }
    @Override int air() { return Math.max(1, super.air() / 2); }
    @Override int error(Player by, Player to) { return super.error(by, to) + 1; }
    @Override int drift(int wind) { return 0; }
  }

  static class High extends Touch {
    High(int k, int f, int h) { super(k, f, h); }
    @Override int air() { return super.air() + 1; }
    @Override int error(Player by, Player to) { return super.error(by, to) + height / 3; }
    @Override int drift(int wind) { return 2 * super.drift(wind); }
    @Override int tires() { return super.tires() + 1; }
  }

  static class Calm extends Low {
    Calm(int k, int f, int h) { super(k, f, h); }
    @Override int air() { return super.air() + 1; }
    @Override int error(Player by, Player to) { return super.error(by, to) / 2; }
    @Override int tires() { return 0; }
  }

  static class Spun extends High {
    Spun(int k, int f, int h) { super(k, f, h); }
    @Override int error(Player by, Player to) { return super.error(by, to) + figure / 4; }
    @Override int drift(int wind) { return super.drift(wind) + (figure % 2 != 0 ? 1 : -1); }
    @Override int tires() { return super.tires() + figure; }
  }

  static class Pass extends Touch {
    Pass(int k, int f, int h) { super(k, f, h); }
    @Override int error(Player by, Player to) { return super.error(by, to) + (by == to ? 2 : 0); }
    @Override int drift(int wind) { return super.drift(wind) / 2; }
  }

  static final class Player {
    int yard, pace, skill, tired;
    Player(int yard, int pace, int skill, int tired) { this.yard = yard; this.pace = pace; this.skill = skill; this.tired = tired; }
  }

  record Odds(BigInteger above, BigInteger below) {
    static Odds of(long a, long b) {
      return of(BigInteger.valueOf(a), BigInteger.valueOf(b));
    }
    static Odds of(BigInteger a, BigInteger b) {
      BigInteger g = a.gcd(b);
      return new Odds(a.divide(g), b.divide(g));
    }
    Odds plus(Odds o) { return of(above.multiply(o.below).add(o.above.multiply(below)), below.multiply(o.below)); }
    boolean exceeds(Odds o) { return above.multiply(o.below).compareTo(o.above.multiply(below)) > 0; }
    Odds by(long n) { return of(above, below.multiply(BigInteger.valueOf(n))); }
    int ofThousand() { return above.multiply(BigInteger.valueOf(1000)).divide(below).intValue(); }
    long part(int part) { return (part == 0 ? above : below).longValueExact(); }
  }

  static final class World {
    int yards = 12, wind = 0, ball = -9, count = 0;
    final List<Player> players = new ArrayList<>();
    final List<Touch> touches = new ArrayList<>();

    World copy() {
      World w = new World();
      w.yards = yards; w.wind = wind; w.ball = ball; w.count = count;
      for (Player p : players) w.players.add(new Player(p.yard, p.pace, p.skill, p.tired));
      w.touches.addAll(touches);
      return w;
    }

    int error(int t, int one, int other) { return touches.get(t).error(players.get(one), players.get(other)); }

    boolean keep(int t, int to, int e) {
      Touch touch = touches.get(t);
      Player receiver = players.get(to);
      Player toucher = players.get(ball);
      int down = receiver.yard + touch.drift(wind) + e;
      boolean had = 0 <= down && down < yards && Math.abs(down - receiver.yard) <= receiver.pace * touch.air();
      if (had) { receiver.yard = down; ball = to; count++; } else { ball = -9; count = 0; }
      for (Player p : players) p.tired = p == toucher ? Math.min(99, p.tired + touch.tires()) : Math.max(0, p.tired - 1);
      return had;
    }

    Odds again(int t, int one, int other) {
      int error = error(t, one, other);
      int had = 0;
      for (int e = -error; e <= error; e++) {
        World w = copy();
        w.ball = one;
        if (w.keep(t, other, e)) had++;
      }
      return Odds.of(had, 2L * error + 1);
    }

    int best() {
      if (ball < 0 || touches.isEmpty()) return -9;
      int best = -9;
      Odds greatest = null;
      for (int t = 0; t < touches.size(); t++) for (int p = 0; p < players.size(); p++) {
        Odds odds = again(t, ball, p);
        if (greatest == null || odds.exceeds(greatest)) { greatest = odds; best = 10 * t + p; }
      }
      return best;
    }

    Odds on(int n) {
      if (ball < 0 || touches.isEmpty()) return Odds.of(0, 1);
      if (n == 0) return Odds.of(1, 1);
      Odds greatest = Odds.of(0, 1);
      for (int t = 0; t < touches.size(); t++) for (int p = 0; p < players.size(); p++) {
        int error = error(t, ball, p);
        Odds sum = Odds.of(0, 1);
        for (int e = -error; e <= error; e++) {
          World w = copy();
          if (w.keep(t, p, e)) sum = sum.plus(w.on(n - 1));
        }
        Odds odds = sum.by(2L * error + 1);
        if (odds.exceeds(greatest)) greatest = odds;
      }
      return greatest;
    }

    void rowsToHimself(int n, List<Integer> tired) {
      if (n == 0) { tired.add(players.get(ball).tired); return; }
      for (int t = 0; t < touches.size(); t++) {
        World w = copy();
        if (w.keep(t, ball, 0)) w.rowsToHimself(n - 1, tired);
      }
    }
  }

  static final class Model {
    World w = new World();
    World image = null;
    final StringBuilder letters = new StringBuilder();
    final List<Integer> row = new ArrayList<>();
    final int[] refused = new int[7];
    int seed;

    long refuse(int r) { refused[-r]++; return r; }
    boolean noPlayer(int p) { return p < 0 || p >= w.players.size(); }
    boolean noTouch(int t) { return t < 0 || t >= w.touches.size(); }
    boolean noneOf(int t, int one, int other) { return noTouch(t) || noPlayer(one) || noPlayer(other); }

    long feed(int letter) {
      if (letter < 0) return refuse(-4);
      if (letter > 255 || letters.length() == 80) return refuse(-6);
      letters.append((char) letter);
      return letters.length();
    }

    private static final Pattern STATEMENT = Pattern.compile("y\\d{1,2};|w[+-]\\d;|p\\d{1,2},\\d\\d;|t\\d\\d\\d;|b\\d;");

    /** How far a text can be the start of a lane, by trying each start with every end that could follow. */
    private static boolean canGoOn(String start) {
      Matcher m = STATEMENT.matcher(start);
      int at = 0;
      while (m.find(at) && m.start() == at) at = m.end();
      String rest = start.substring(at);
      if (rest.isEmpty()) return true;
      for (String whole : new String[] {"y1;", "y11;", "w+1;", "w-1;", "p1,11;", "p11,11;", "t111;", "b1;"})
        if (whole.startsWith(rest.replaceAll("\\d", "1"))) return true;
      return false;
    }

    long lane() {
      String text = letters.toString();
      letters.setLength(0);
      for (int i = 0; i < text.length(); i++) if (!canGoOn(text.substring(0, i + 1))) return -1000 - i;
      if (!text.endsWith(";")) return -1000 - text.length();
      World next = w.copy();
      int statements = 0;
      int place = 0;
      for (String s : text.split(";")) {
        if (!comes(next, s)) return -2000 - place;
        place += s.length() + 1;
        statements++;
      }
      w = next;
      return statements;
    }

    private static boolean comes(World next, String s) {
      String rest = s.substring(1);
      switch (s.charAt(0)) {
        case 'y':
          int yards = Integer.parseInt(rest);
          if (yards < 3 || yards > 12) return false;
          next.yards = yards;
          for (Player p : next.players) if (p.yard >= yards) p.yard = yards - 1;
          return true;
        case 'w':
          int wind = Integer.parseInt(rest);
          if (Math.abs(wind) > 3) return false;
          next.wind = wind;
          return true;
        case 'p':
          String[] parts = rest.split(",");
          int yard = Integer.parseInt(parts[0]);
          int pace = parts[1].charAt(0) - '0';
          if (yard >= next.yards || pace < 1 || pace > 3 || next.players.size() == 5) return false;
          next.players.add(new Player(yard, pace, parts[1].charAt(1) - '0', 0));
          return true;
        case 't':
          if (rest.charAt(0) > '5' || rest.charAt(2) == '0' || next.touches.size() == 6) return false;
          next.touches.add(Touch.of(rest.charAt(0) - '0', rest.charAt(1) - '0', rest.charAt(2) - '0'));
          return true;
        default:
          int player = Integer.parseInt(rest);
          if (player >= next.players.size()) return false;
          next.ball = player;
          next.count = 0;
          return true;
      }
    }

    long player(int p, int what) {
      if (noPlayer(p)) return refuse(-1);
      if (what < 0 || what > 3) return refuse(-2);
      Player x = w.players.get(p);
      return new int[] {x.yard, x.pace, x.skill, x.tired}[what];
    }

    long touch(int t, int what) {
      if (noTouch(t)) return refuse(-1);
      if (what < 0 || what > 5) return refuse(-2);
      Touch x = w.touches.get(t);
      return new int[] {x.kind, x.figure, x.height, x.air(), 10 + x.drift(w.wind), x.tires()}[what];
    }

    long wind(int v) {
      if (v < -3) return refuse(-4);
      if (v > 3) return refuse(-6);
      int was = w.wind + 3;
      w.wind = v;
      return was;
    }

    long move(int p, int yard) {
      if (noPlayer(p)) return refuse(-1);
      if (yard < 0) return refuse(-4);
      if (yard >= w.yards) return refuse(-6);
      int was = w.players.get(p).yard;
      w.players.get(p).yard = yard;
      return was;
    }

    long give(int p) {
      if (noPlayer(p)) return refuse(-1);
      int was = w.ball;
      w.ball = p;
      w.count = 0;
      return was;
    }

    long skill(int p, int v) {
      if (noPlayer(p)) return refuse(-1);
      if (v < 0) return refuse(-4);
      if (v > 9) return refuse(-6);
      int was = w.players.get(p).skill;
      w.players.get(p).skill = v;
      return was;
    }

    long error(int t, int one, int other) { return noneOf(t, one, other) ? refuse(-1) : w.error(t, one, other); }

    long keep(int t, int to, int e) {
      if (noTouch(t) || noPlayer(to)) return refuse(-1);
      if (w.ball < 0) return refuse(-3);
      if (e < -w.error(t, w.ball, to)) return refuse(-4);
      if (e > w.error(t, w.ball, to)) return refuse(-6);
      w.keep(t, to, e);
      return w.count;
    }

    long refuseLong(int r) { return 4000000000000000000L - refuse(r); }

    long again(int t, int one, int other, int part) {
      if (noneOf(t, one, other)) return refuseLong(-1);
      if (part != 0 && part != 1) return refuseLong(-2);
      return w.again(t, one, other).part(part);
    }

    long on(int n, int part) {
      if (n < 1) return refuseLong(-4);
      if (n > 2) return refuseLong(-6);
      if (part != 0 && part != 1) return refuseLong(-2);
      return w.on(n).part(part);
    }

    long stand(int t, int p) {
      if (noTouch(t) || noPlayer(p)) return refuse(-1);
      if (w.ball < 0) return -9;
      int best = -1;
      Odds greatest = null;
      for (int yard = 0; yard < w.yards; yard++) {
        World x = w.copy();
        x.players.get(p).yard = yard;
        Odds odds = x.again(t, x.ball, p);
        if (greatest == null || odds.exceeds(greatest)) { greatest = odds; best = yard; }
      }
      return best;
    }

    long grows(int t, int p, int n) {
      if (noTouch(t) || noPlayer(p)) return refuse(-1);
      if (n < 1) return refuse(-4);
      if (n > 20) return refuse(-6);
      World x = w.copy();
      Player one = x.players.get(p);
      for (int i = 1; i < n; i++) one.tired = Math.min(99, one.tired + x.touches.get(t).tires());
      return x.error(t, p, p);
    }

    long worth() {
      if (w.best() < 0) return -9;
      World x = w.copy();
      Player one = x.players.get(x.ball);
      if (one.skill < 9) one.skill++;
      int then = x.best();
      int before = w.best();
      int more = x.again(then / 10, x.ball, then % 10).ofThousand() - w.again(before / 10, w.ball, before % 10).ofThousand();
      return Math.max(0, more);
    }

    long who(int t) {
      if (noTouch(t)) return refuse(-1);
      if (w.ball < 0) return -9;
      int best = 0;
      for (int p = 1; p < w.players.size(); p++)
        if (w.again(t, w.ball, p).exceeds(w.again(t, w.ball, best))) best = p;
      return best;
    }

    long winds(int t, int one, int other, int yard) {
      if (noneOf(t, one, other)) return refuse(-1);
      if (yard < 0) return refuse(-4);
      if (yard >= w.yards) return refuse(-6);
      int bits = 0;
      int error = w.error(t, one, other);
      for (int v = -3; v <= 3; v++) for (int e = -error; e <= error; e++)
        if (w.players.get(other).yard + w.touches.get(t).drift(v) + e == yard) bits |= 1 << (v + 3);
      return bits;
    }

    long longest(int n, int what) {
      if (n < 1) return refuse(-4);
      if (n > 3) return refuse(-6);
      if (what != 0 && what != 1) return refuse(-2);
      if (w.ball < 0) return refuse(-3);
      List<Integer> tired = new ArrayList<>();
      w.rowsToHimself(n, tired);
      return what == 0 ? tired.size() : tired.stream().mapToInt(i -> i).min().orElse(-9);
    }

    long row(int v) {
      if (v < 0) return refuse(-4);
      if (v > 999 || row.size() == 8) return refuse(-6);
      row.add(v);
      return row.size();
    }

    long judge() {
      World x = w.copy();
      int first = -9;
      for (int i = 0; i < row.size() && first < 0; i++) {
        int t = row.get(i) / 100, p = row.get(i) / 10 % 10, e = row.get(i) % 10 - 4;
        boolean can = !noTouch(t) && !noPlayer(p) && e <= 4 && x.ball >= 0 && Math.abs(e) <= x.error(t, x.ball, p);
        if (!can || !x.keep(t, p, e)) first = i;
      }
      row.clear();
      return first;
    }

    private int draw(int n) {
      seed = seed * 1103515245 + 12345;
      return ((seed & Integer.MAX_VALUE) >>> 16) % n;
    }

    long seeds(int n, int z) {
      if (n < 1) return refuse(-4);
      if (n > 40) return refuse(-6);
      if (w.ball < 0 || w.touches.isEmpty()) return refuse(-3);
      World x = w.copy();
      seed = z;
      for (int i = 0; i < n; i++) {
        int t = draw(x.touches.size());
        int p = draw(x.players.size());
        int error = x.error(t, x.ball, p);
        if (!x.keep(t, p, draw(2 * error + 1) - error)) return i;
      }
      return x.count;
    }

    long image() { image = w.copy(); return w.count; }

    long restore() {
      if (image == null) return refuse(-3);
      w = image.copy();
      return w.count;
    }

    long count(int what) {
      if (what >= 11 && what <= 16) return refused[what - 10];
      if (what < 0 || what > 8) return -9;
      int tired = 0;
      for (Player p : w.players) tired += p.tired;
      return new int[] {w.yards, w.players.size(), w.touches.size(), w.count, w.ball, w.wind + 3, tired,
          letters.length(), row.size()}[what];
    }
  }

  private static int wrong = 0;
  private final Random random;
  private final KeptUpByFeet x = new KeptUpByFeet();
  private final Model m = new Model();
  private final String name;
  private int calls = 0;

  private ModelTest(int run) { random = new Random(run); name = "run " + run; }

  private void due(String call, long got, long want) {
    calls++;
    if (got != want) {
      wrong++;
      if (wrong < 20) System.out.println(name + ", call " + calls + ": " + call + " answered " + got + ", due is " + want);
    }
  }

  /** Mostly in range, at times just out of it, seldom far out. */
  private int near(int least, int most) {
    int dice = random.nextInt(100);
    if (dice == 0) return Integer.MIN_VALUE;
    if (dice == 1) return Integer.MAX_VALUE;
    if (dice == 2) return random.nextInt();
    if (dice < 6) return least - 1;
    if (dice < 10) return most + 1;
    return least + random.nextInt(most - least + 1);
  }

  private int touch() { return near(0, Math.max(0, m.w.touches.size() - 1)); }
  private int player() { return near(0, Math.max(0, m.w.players.size() - 1)); }

  private void tell(String text) {
    for (int i = 0; i < text.length(); i++) due("feed", x.feed(text.charAt(i)), m.feed(text.charAt(i)));
    due("lane of " + text, x.lane(), m.lane());
  }

  private String statement() {
    int d = random.nextInt(10), e = random.nextInt(10), f = random.nextInt(10);
    switch (random.nextInt(5)) {
      case 0: return "y" + (2 + random.nextInt(12)) + ";";
      case 1: return "w" + (random.nextBoolean() ? "+" : "-") + random.nextInt(4) + ";";
      case 2: return "p" + random.nextInt(11) + "," + (random.nextInt(12) == 0 ? d : 1 + d % 3) + e + ";";
      case 3: return "t" + (random.nextInt(12) == 0 ? d : d % 6) + e + f + ";";
      default: return "b" + (random.nextInt(6) == 0 ? d : random.nextInt(3)) + ";";
    }
  }

  private String start() {
    StringBuilder s = new StringBuilder();
    if (random.nextBoolean()) s.append("y").append(3 + random.nextInt(10)).append(";");
    int players = random.nextInt(6), touches = random.nextInt(7);
    for (int i = 0; i < players; i++)
      s.append("p").append(random.nextInt(3)).append(",").append(1 + random.nextInt(3)).append(random.nextInt(10)).append(";");
    for (int i = 0; i < touches; i++)
      s.append("t").append(random.nextInt(6)).append(random.nextInt(10)).append(1 + random.nextInt(9)).append(";");
    if (players > 0) s.append("b").append(random.nextInt(players)).append(";");
    return s.toString();
  }

  private String lane() {
    StringBuilder s = new StringBuilder();
    int statements = random.nextInt(4);
    for (int i = 0; i < statements; i++) s.append(statement());
    if (s.length() > 0 && random.nextInt(3) == 0) {
      int at = random.nextInt(s.length());
      if (random.nextBoolean()) s.deleteCharAt(at); else s.setCharAt(at, "ywptb0199+-,;q ".charAt(random.nextInt(15)));
    }
    return s.toString();
  }

  private void play() {
    if (m.w.ball < 0 && random.nextBoolean()) {
      int p = player();
      due("give " + p, x.give(p), m.give(p));
    }
    int t = touch(), p = player();
    int error = m.noTouch(t) || m.noPlayer(p) || m.w.ball < 0 ? 2 : m.w.error(t, m.w.ball, p);
    int e = random.nextBoolean() ? near(-error, error) : 0;
    due("keep " + t + " " + p + " " + e, x.keep(t, p, e), m.keep(t, p, e));
  }

  private void ask() {
    int t = touch(), p = player(), q = player(), part = near(0, 1), n, z;
    switch (random.nextInt(11)) {
      case 0: due("error", x.error(t, p, q), m.error(t, p, q)); break;
      case 1: due("again", x.again(t, p, q, part), m.again(t, p, q, part)); break;
      case 2: due("best", x.best(), m.w.best()); break;
      case 3: n = random.nextInt(8) > 0 ? near(1, 1) : near(1, 2); due("on " + n, x.on(n, part), m.on(n, part)); break;
      case 4: due("stand", x.stand(t, p), m.stand(t, p)); break;
      case 5: n = near(1, 20); due("grows", x.grows(t, p, n), m.grows(t, p, n)); break;
      case 6: due("worth", x.worth(), m.worth()); break;
      case 7: due("who", x.who(t), m.who(t)); break;
      case 8: n = near(0, m.w.yards - 1); due("winds", x.winds(t, p, q, n), m.winds(t, p, q, n)); break;
      case 9: n = near(1, 3); due("longest", x.longest(n, part), m.longest(n, part)); break;
      default: n = near(1, 40); z = random.nextInt(); due("seeds", x.seeds(n, z), m.seeds(n, z)); break;
    }
  }

  private void change() {
    int p = player(), v;
    switch (random.nextInt(8)) {
      case 0: v = near(-3, 3); due("wind", x.wind(v), m.wind(v)); break;
      case 1: v = near(0, m.w.yards - 1); due("move", x.move(p, v), m.move(p, v)); break;
      case 2: due("give", x.give(p), m.give(p)); break;
      case 3: v = near(0, 9); due("skill", x.skill(p, v), m.skill(p, v)); break;
      case 4: if (random.nextInt(4) == 0) due("image", x.image(), m.image()); break;
      case 5: if (random.nextInt(4) == 0) due("restore", x.restore(), m.restore()); break;
      case 6: if (random.nextInt(4) == 0) tell(lane()); break;
      default: v = near(0, 255); due("feed", x.feed(v), m.feed(v)); break;
    }
  }

  private void judge() {
    int numbers = random.nextInt(10);
    for (int i = 0; i < numbers; i++) {
      int v = random.nextInt(5) == 0 ? near(0, 999)
          : 100 * random.nextInt(Math.max(1, m.w.touches.size())) + 10 * random.nextInt(Math.max(1, m.w.players.size()))
              + (random.nextBoolean() ? 4 : random.nextInt(10));
      due("row " + v, x.row(v), m.row(v));
    }
    due("judge", x.judge(), m.judge());
  }

  private void look() {
    int t = touch(), p = player(), what;
    switch (random.nextInt(3)) {
      case 0: what = near(0, 3); due("player", x.player(p, what), m.player(p, what)); break;
      case 1: what = near(0, 5); due("touch", x.touch(t, what), m.touch(t, what)); break;
      default: what = near(0, 16); due("count " + what, x.count(what), m.count(what)); break;
    }
  }

  private void lookAtAll() {
    for (int what = 0; what <= 16; what++) due("count " + what, x.count(what), m.count(what));
    for (int p = 0; p < m.w.players.size(); p++)
      for (int what = 0; what < 4; what++) due("player " + p, x.player(p, what), m.player(p, what));
    for (int t = 0; t < m.w.touches.size(); t++)
      for (int what = 0; what < 6; what++) due("touch " + t, x.touch(t, what), m.touch(t, what));
  }

  private void run() {
    if (random.nextInt(10) > 0) tell(start());
    while (calls < CALLS - 100) {
      int dice = random.nextInt(20);
      if (dice < 6) play();
      else if (dice < 13) ask();
      else if (dice < 16) change();
      else if (dice < 17) judge();
      else look();
    }
    lookAtAll();
    while (calls < CALLS) look();
    if (calls != CALLS) { wrong++; System.out.println(name + " has " + calls + " calls"); }
  }

  public static void main(String[] args) {
    for (int run = 0; run < RUNS; run++) new ModelTest(run).run();
    System.out.println(wrong == 0 ? "all answers are as due" : wrong + " answers are not as due");
    if (wrong != 0) System.exit(1);
  }
}
