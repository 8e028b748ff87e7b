/** A ball kept up with the feet in a lane of yards: see ../shared/DOC.md for what each call promises. */
public final class KeptUpByFeet {
    private static final int NONE = -9;

    private static final int NOBODY = -1;
    private static final int OTHER = -2;
    private static final int STATE = -3;
    private static final int BELOW = -4;
    private static final int ROOM = -6;
    private static final long REFUSED_LONG = 4000000000000000000L;

    private static final int MISFIT_FAULT = -1000;
    private static final int RANGE_FAULT = -2000;

    private static final int MOST_LETTERS = 80;
    private static final int MOST_LETTER = 255;
    private static final int MOST_PLAYERS = 5;
    private static final int MOST_TOUCHES = 6;
    private static final int LEAST_YARDS = 3;
    private static final int MOST_YARDS = 12;
    private static final int MOST_WIND = 3;
    private static final int MOST_PACE = 3;
    private static final int MOST_SKILL = 9;
    private static final int MOST_TIRED = 99;
    private static final int MOST_IN_ROW = 8;
    private static final int MOST_ROW_NUMBER = 999;
    private static final int MOST_ON = 2;
    private static final int MOST_GROWS = 20;
    private static final int MOST_LONGEST = 3;
    private static final int MOST_SEEDS = 40;
    private static final int MOST_ROW_ERROR = 4;

    private static final int LOW = 1;
    private static final int HIGH = 2;
    private static final int CALM = 3;
    private static final int SPUN = 4;
    private static final int PASS = 5;

    // No ERROR is above 13, so 27 ways at most: this is the least multiple of all odd numbers
    // up to 27, and sums of such odds stay whole over it.
    private static final long COMMON_WAYS = 5019589575L;

    private final Lane now = new Lane();
    private final Lane mind = new Lane();
    private final Lane kept = new Lane();
    private boolean isKept = false;
    private final Letters letters = new Letters();
    private final int[] rowNumbers = new int[MOST_IN_ROW];
    private int rowSize = 0;
    private final int[] refusals = new int[7];
    private final Odds odds = new Odds();

    public KeptUpByFeet() {
    }

    public int feed(int letter) {
        if (letter < 0) {
            return refuse(BELOW);
        }
        if (letter > MOST_LETTER || letters.size >= MOST_LETTERS) {
            return refuse(ROOM);
        }
        letters.add(letter);
        return letters.size;
    }

    public int lane() {
        int answer = readLetters();
        letters.size = 0;
        return answer;
    }

    public int player(int player, int what) {
        if (!now.hasPlayer(player)) {
            return refuse(NOBODY);
        }
        switch (what) {
            case 0: return now.yard[player];
            case 1: return now.pace[player];
            case 2: return now.skill[player];
            case 3: return now.tired[player];
            default: return refuse(OTHER);
        }
    }

    public int touch(int touch, int what) {
        if (!now.hasTouch(touch)) {
            return refuse(NOBODY);
        }
        Touch told = now.touches[touch];
        switch (what) {
            case 0: return told.kind;
            case 1: return told.figure;
            case 2: return told.height;
            case 3: return told.air();
            case 4: return told.drift(now.wind) + 10;
            case 5: return told.tires();
            default: return refuse(OTHER);
        }
    }

    public int wind(int v) {
        if (v < -MOST_WIND) {
            return refuse(BELOW);
        }
        if (v > MOST_WIND) {
            return refuse(ROOM);
        }
        int before = now.wind;
        now.wind = v;
        return before + MOST_WIND;
    }

    public int move(int player, int yard) {
        if (!now.hasPlayer(player)) {
            return refuse(NOBODY);
        }
        if (yard < 0) {
            return refuse(BELOW);
        }
        if (yard >= now.yards) {
            return refuse(ROOM);
        }
        int before = now.yard[player];
        now.yard[player] = yard;
        return before;
    }

    public int give(int player) {
        if (!now.hasPlayer(player)) {
            return refuse(NOBODY);
        }
        int before = now.ball;
        now.handTo(player);
        return before;
    }

    public int skill(int player, int v) {
        if (!now.hasPlayer(player)) {
            return refuse(NOBODY);
        }
        if (v < 0) {
            return refuse(BELOW);
        }
        if (v > MOST_SKILL) {
            return refuse(ROOM);
        }
        int before = now.skill[player];
        now.skill[player] = v;
        return before;
    }

    public int error(int touch, int one, int other) {
        if (!areThere(touch, one, other)) {
            return refuse(NOBODY);
        }
        return now.errorOf(touch, one, other);
    }

    public int keep(int touch, int to, int e) {
        if (!now.hasTouch(touch) || !now.hasPlayer(to)) {
            return refuse(NOBODY);
        }
        if (!now.isUp()) {
            return refuse(STATE);
        }
        int most = now.errorOf(touch, now.ball, to);
        if (e < -most) {
            return refuse(BELOW);
        }
        if (e > most) {
            return refuse(ROOM);
        }
        now.play(touch, to, e);
        return now.times;
    }

    public long again(int touch, int one, int other, int part) {
        if (!areThere(touch, one, other)) {
            return refuseLong(NOBODY);
        }
        if (part < 0 || part > 1) {
            return refuseLong(OTHER);
        }
        odds.become(now.waysHad(touch, one, other), now.ways(touch, one, other));
        return odds.part(part);
    }

    public int best() {
        return now.isInPlay() ? now.bestMove() : NONE;
    }

    public long on(int n, int part) {
        if (n < 1) {
            return refuseLong(BELOW);
        }
        if (n > MOST_ON) {
            return refuseLong(ROOM);
        }
        if (part < 0 || part > 1) {
            return refuseLong(OTHER);
        }
        if (!now.isInPlay()) {
            odds.become(0, 1);
        } else if (n == 1) {
            odds.become(now.bestOf(COMMON_WAYS), COMMON_WAYS);
        } else {
            findOddsOfTwo();
        }
        return odds.part(part);
    }

    public int stand(int touch, int player) {
        if (!now.hasTouch(touch) || !now.hasPlayer(player)) {
            return refuse(NOBODY);
        }
        if (!now.isUp()) {
            return NONE;
        }
        mind.copyFrom(now);
        int bestYard = 0;
        int bestWays = -1;
        for (int yard = 0; yard < now.yards; yard++) {
            mind.yard[player] = yard;
            int had = mind.waysHad(touch, mind.ball, player);
            if (had > bestWays) {
                bestWays = had;
                bestYard = yard;
            }
        }
        return bestYard;
    }

    public int grows(int touch, int player, int n) {
        if (!now.hasTouch(touch) || !now.hasPlayer(player)) {
            return refuse(NOBODY);
        }
        if (n < 1) {
            return refuse(BELOW);
        }
        if (n > MOST_GROWS) {
            return refuse(ROOM);
        }
        Touch told = now.touches[touch];
        int tired = Math.min(MOST_TIRED, now.tired[player] + (n - 1) * told.tires());
        return told.errorBy(now.skill[player], tired, true);
    }

    public int worth() {
        if (!now.isInPlay()) {
            return NONE;
        }
        mind.copyFrom(now);
        mind.skill[mind.ball] = Math.min(MOST_SKILL, mind.skill[mind.ball] + 1);
        return Math.max(0, (int) (mind.bestOf(1000) - now.bestOf(1000)));
    }

    public int who(int touch) {
        if (!now.hasTouch(touch)) {
            return refuse(NOBODY);
        }
        if (!now.isUp()) {
            return NONE;
        }
        int bestPlayer = 0;
        int bestHad = 0;
        int bestWays = 1;
        for (int player = 0; player < now.playerCount; player++) {
            int had = now.waysHad(touch, now.ball, player);
            int ways = now.ways(touch, now.ball, player);
            if (had * bestWays > bestHad * ways) {
                bestPlayer = player;
                bestHad = had;
                bestWays = ways;
            }
        }
        return bestPlayer;
    }

    public int winds(int touch, int one, int other, int yard) {
        if (!areThere(touch, one, other)) {
            return refuse(NOBODY);
        }
        if (yard < 0) {
            return refuse(BELOW);
        }
        if (yard >= now.yards) {
            return refuse(ROOM);
        }
        int most = now.errorOf(touch, one, other);
        int way = yard - now.yard[other];
        int bits = 0;
        for (int v = -MOST_WIND; v <= MOST_WIND; v++) {
            if (Math.abs(way - now.touches[touch].drift(v)) <= most) {
                bits |= 1 << (v + MOST_WIND);
            }
        }
        return bits;
    }

    public int longest(int n, int what) {
        if (n < 1) {
            return refuse(BELOW);
        }
        if (n > MOST_LONGEST) {
            return refuse(ROOM);
        }
        if (what < 0 || what > 1) {
            return refuse(OTHER);
        }
        if (!now.isUp()) {
            return refuse(STATE);
        }
        int rows = 0;
        int leastTired = NONE;
        int choices = choicesOf(n);
        for (int choice = 0; choice < choices; choice++) {
            if (isHadThroughout(choice, n)) {
                int tired = mind.tired[mind.ball];
                leastTired = rows == 0 ? tired : Math.min(leastTired, tired);
                rows++;
            }
        }
        return what == 0 ? rows : leastTired;
    }

    public int row(int v) {
        if (v < 0) {
            return refuse(BELOW);
        }
        if (v > MOST_ROW_NUMBER || rowSize >= MOST_IN_ROW) {
            return refuse(ROOM);
        }
        rowNumbers[rowSize] = v;
        rowSize++;
        return rowSize;
    }

    public int judge() {
        int size = rowSize;
        rowSize = 0;
        mind.copyFrom(now);
        for (int place = 0; place < size; place++) {
            if (!isHadInMind(rowNumbers[place])) {
                return place;
            }
        }
        return NONE;
    }

    public int seeds(int n, int z) {
        if (n < 1) {
            return refuse(BELOW);
        }
        if (n > MOST_SEEDS) {
            return refuse(ROOM);
        }
        if (!now.isInPlay()) {
            return refuse(STATE);
        }
        mind.copyFrom(now);
        int seed = z;
        for (int had = 0; had < n; had++) {
            seed = nextSeed(seed);
            int touch = drawBelow(mind.touchCount, seed);
            seed = nextSeed(seed);
            int to = drawBelow(mind.playerCount, seed);
            seed = nextSeed(seed);
            int e = drawBelow(mind.ways(touch, mind.ball, to), seed) - mind.errorOf(touch, mind.ball, to);
            if (!mind.play(touch, to, e)) {
                return had;
            }
        }
        return mind.times;
    }

    public int image() {
        kept.copyFrom(now);
        isKept = true;
        return now.times;
    }

    public int restore() {
        if (!isKept) {
            return refuse(STATE);
        }
        now.copyFrom(kept);
        return now.times;
    }

    public int count(int what) {
        if (what >= 11 && what <= 16) {
            return refusals[what - 10];
        }
        switch (what) {
            case 0: return now.yards;
            case 1: return now.playerCount;
            case 2: return now.touchCount;
            case 3: return now.times;
            case 4: return now.ball;
            case 5: return now.wind + MOST_WIND;
            case 6: return now.allTired();
            case 7: return letters.size;
            case 8: return rowSize;
            default: return NONE;
        }
    }

    private int refuse(int number) {
        int place = -number;
        if (place >= 0 && place < refusals.length) {
            refusals[place]++;
        }
        return number;
    }

    private long refuseLong(int number) {
        return REFUSED_LONG - refuse(number);
    }

    private boolean areThere(int touch, int one, int other) {
        return now.hasTouch(touch) && now.hasPlayer(one) && now.hasPlayer(other);
    }

    private int readLetters() {
        int misfit = letters.misfit();
        if (misfit >= 0) {
            return MISFIT_FAULT - misfit;
        }
        mind.copyFrom(now);
        int statements = 0;
        letters.at = 0;
        while (letters.at < letters.size && statements < MOST_LETTERS) {
            int start = letters.at;
            if (!letters.readInto(mind)) {
                return RANGE_FAULT - start;
            }
            letters.take();
            statements++;
        }
        now.copyFrom(mind);
        return statements;
    }

    private void findOddsOfTwo() {
        long bestSum = 0;
        long bestWays = 1;
        for (int touch = 0; touch < now.touchCount; touch++) {
            for (int to = 0; to < now.playerCount; to++) {
                long sum = sumOfOddsBehind(touch, to);
                long ways = now.ways(touch, now.ball, to);
                if (sum * bestWays > bestSum * ways) {
                    bestSum = sum;
                    bestWays = ways;
                }
            }
        }
        odds.become(bestSum, bestWays * COMMON_WAYS);
    }

    /** Each error's odds of one more behind it, counted in parts of COMMON_WAYS. */
    private long sumOfOddsBehind(int touch, int to) {
        int most = now.errorOf(touch, now.ball, to);
        long sum = 0;
        for (int e = -most; e <= most; e++) {
            if (now.isHad(touch, to, e)) {
                mind.copyFrom(now);
                mind.play(touch, to, e);
                sum += mind.bestOf(COMMON_WAYS);
            }
        }
        return sum;
    }

    private int choicesOf(int n) {
        int choices = 1;
        for (int i = 0; i < n; i++) {
            choices *= now.touchCount;
        }
        return choices;
    }

    /** The choice's digits, to the base of how many TOUCHES there are, are the row. */
    private boolean isHadThroughout(int choice, int n) {
        mind.copyFrom(now);
        int left = choice;
        for (int i = 0; i < n; i++) {
            if (mind.touchCount < 1 || !mind.play(left % mind.touchCount, mind.ball, 0)) {
                return false;
            }
            left /= mind.touchCount;
        }
        return true;
    }

    private boolean isHadInMind(int number) {
        int touch = number / 100;
        int to = number / 10 % 10;
        int e = number % 10 - MOST_ROW_ERROR;
        if (!mind.isUp() || !mind.hasTouch(touch) || !mind.hasPlayer(to)) {
            return false;
        }
        if (e > MOST_ROW_ERROR || Math.abs(e) > mind.errorOf(touch, mind.ball, to)) {
            return false;
        }
        return mind.play(touch, to, e);
    }

    private static int nextSeed(int z) {
        return z * 1103515245 + 12345;
    }

    private static int drawBelow(int n, int z) {
        return n < 1 ? 0 : (z & 0x7fffffff) / 65536 % n;
    }

    private static final class Touch {
        private final int kind;
        private final int figure;
        private final int height;

        private Touch(int kind, int figure, int height) {
            this.kind = kind;
            this.figure = figure;
            this.height = height;
        }

        private int air() {
            int half = height < 2 ? 1 : height / 2;
            switch (kind) {
                case LOW: return half;
                case CALM: return half + 1;
                case HIGH:
                case SPUN: return height + 1;
                default: return height;
            }
        }

        private int errorBy(int skill, int tired, boolean toHimself) {
            int grown = 4 + tired / 20 - skill / 2;
            int plain = grown < 0 ? 0 : grown;
            switch (kind) {
                case LOW: return plain + 1;
                case HIGH: return plain + height / 3;
                case CALM: return (plain + 1) / 2;
                case SPUN: return plain + height / 3 + figure / 4;
                case PASS: return toHimself ? plain + 2 : plain;
                default: return plain;
            }
        }

        private int drift(int wind) {
            // AIR is this one's own, of a HIGH too: the document says AIR there, not HEIGHT.
            int plain = wind * air() / 4;
            switch (kind) {
                case LOW:
                case CALM: return 0;
                case HIGH: return 2 * plain;
                case SPUN: return 2 * plain + (figure % 2 == 1 ? 1 : -1);
                case PASS: return plain / 2;
                default: return plain;
            }
        }

        private int tires() {
            switch (kind) {
                case HIGH: return 2;
                case CALM: return 0;
                case SPUN: return 2 + figure;
                default: return 1;
            }
        }
    }

    /** All that an image holds; kept three times: as it is, in mind, and as the image. */
    private static final class Lane {
        private int yards = MOST_YARDS;
        private int wind = 0;
        private int playerCount = 0;
        private int touchCount = 0;
        private int ball = NONE;
        private int times = 0;
        private final int[] yard = new int[MOST_PLAYERS];
        private final int[] pace = new int[MOST_PLAYERS];
        private final int[] skill = new int[MOST_PLAYERS];
        private final int[] tired = new int[MOST_PLAYERS];
        private final Touch[] touches = new Touch[MOST_TOUCHES];

        private Lane() {
            // Filled, so that no place of it is ever null.
            Touch unused = new Touch(0, 0, 1);
            for (int i = 0; i < MOST_TOUCHES; i++) {
                touches[i] = unused;
            }
        }

        private void copyFrom(Lane from) {
            yards = from.yards;
            wind = from.wind;
            playerCount = from.playerCount;
            touchCount = from.touchCount;
            ball = from.ball;
            times = from.times;
            for (int i = 0; i < MOST_PLAYERS; i++) {
                yard[i] = from.yard[i];
                pace[i] = from.pace[i];
                skill[i] = from.skill[i];
                tired[i] = from.tired[i];
            }
            for (int i = 0; i < MOST_TOUCHES; i++) {
                touches[i] = from.touches[i];
            }
        }

        private boolean hasPlayer(int player) {
            return player >= 0 && player < playerCount;
        }

        private boolean hasTouch(int touch) {
            return touch >= 0 && touch < touchCount;
        }

        private boolean hasYard(int place) {
            return place >= 0 && place < yards;
        }

        private boolean isUp() {
            return hasPlayer(ball);
        }

        private boolean isInPlay() {
            return isUp() && touchCount > 0;
        }

        private int allTired() {
            int all = 0;
            for (int i = 0; i < playerCount; i++) {
                all += tired[i];
            }
            return all;
        }

        private void handTo(int player) {
            ball = player;
            times = 0;
        }

        private boolean becomeLong(int length) {
            if (length < LEAST_YARDS || length > MOST_YARDS) {
                return false;
            }
            yards = length;
            for (int i = 0; i < playerCount; i++) {
                yard[i] = Math.min(yard[i], yards - 1);
            }
            return true;
        }

        private boolean becomeWindy(int v) {
            if (v < -MOST_WIND || v > MOST_WIND) {
                return false;
            }
            wind = v;
            return true;
        }

        private boolean addPlayer(int place, int itsPace, int itsSkill) {
            if (playerCount >= MOST_PLAYERS || !hasYard(place) || itsPace < 1 || itsPace > MOST_PACE) {
                return false;
            }
            yard[playerCount] = place;
            pace[playerCount] = itsPace;
            skill[playerCount] = itsSkill;
            tired[playerCount] = 0;
            playerCount++;
            return true;
        }

        private boolean addTouch(int kind, int figure, int height) {
            if (touchCount >= MOST_TOUCHES || kind > PASS || height < 1) {
                return false;
            }
            touches[touchCount] = new Touch(kind, figure, height);
            touchCount++;
            return true;
        }

        private boolean startWith(int player) {
            if (!hasPlayer(player)) {
                return false;
            }
            handTo(player);
            return true;
        }

        private int errorOf(int touch, int one, int other) {
            return touches[touch].errorBy(skill[one], tired[one], one == other);
        }

        private int ways(int touch, int one, int other) {
            return 2 * errorOf(touch, one, other) + 1;
        }

        /** Of all errors those by which it is had are one stretch: only its ends are looked for. */
        private int waysHad(int touch, int one, int other) {
            int most = errorOf(touch, one, other);
            int drift = touches[touch].drift(wind);
            int reach = pace[other] * touches[touch].air();
            int first = Math.max(drift - most, Math.max(-reach, -yard[other]));
            int last = Math.min(drift + most, Math.min(reach, yards - 1 - yard[other]));
            return Math.max(0, last - first + 1);
        }

        private boolean isHad(int touch, int to, int e) {
            int way = touches[touch].drift(wind) + e;
            int reach = pace[to] * touches[touch].air();
            return hasYard(yard[to] + way) && Math.abs(way) <= reach;
        }

        /** By the one who has the ball; whether it is had. */
        private boolean play(int touch, int to, int e) {
            int by = ball;
            boolean had = isHad(touch, to, e);
            if (had) {
                yard[to] += touches[touch].drift(wind) + e;
                ball = to;
                times++;
            } else {
                ball = NONE;
                times = 0;
            }
            tire(by, touches[touch].tires());
            return had;
        }

        private void tire(int by, int more) {
            for (int i = 0; i < playerCount; i++) {
                tired[i] = i == by ? Math.min(MOST_TIRED, tired[i] + more) : Math.max(0, tired[i] - 1);
            }
        }

        /** Ten times the touch, and the player; asked only of a lane in play. */
        private int bestMove() {
            int best = 0;
            int bestHad = 0;
            int bestWays = 1;
            for (int touch = 0; touch < touchCount; touch++) {
                for (int to = 0; to < playerCount; to++) {
                    int had = waysHad(touch, ball, to);
                    int ways = ways(touch, ball, to);
                    if (had * bestWays > bestHad * ways) {
                        best = 10 * touch + to;
                        bestHad = had;
                        bestWays = ways;
                    }
                }
            }
            return best;
        }

        /** So many parts of a whole, cut, as AGAIN of BEST is; asked only of a lane in play. */
        private long bestOf(long whole) {
            int best = bestMove();
            int ways = ways(best / 10, ball, best % 10);
            return ways < 1 ? 0 : whole * waysHad(best / 10, ball, best % 10) / ways;
        }
    }

    /** The letters fed, and a place in them for reading. */
    private static final class Letters {
        // Behind a statement's first letter: 9 a digit, ? perhaps one more digit, + a sign.
        private static final String YARDS_FORM = "9?;";
        private static final String WIND_FORM = "+9;";
        private static final String PLAYER_FORM = "9?,99;";
        private static final String TOUCH_FORM = "999;";
        private static final String BALL_FORM = "9;";

        private final int[] signs = new int[MOST_LETTERS];
        private int size = 0;
        private int at = 0;

        private void add(int letter) {
            if (size >= 0 && size < MOST_LETTERS) {
                signs[size] = letter;
                size++;
            }
        }

        /** The letter at the place where reading is; -1 behind the last, which fits nothing. */
        private int here() {
            return at >= 0 && at < size && at < MOST_LETTERS ? signs[at] : -1;
        }

        private int take() {
            int letter = here();
            at++;
            return letter;
        }

        private boolean isDigitHere() {
            return here() >= '0' && here() <= '9';
        }

        private int takeDigit() {
            return take() - '0';
        }

        private int takeNumber() {
            int number = takeDigit();
            return isDigitHere() ? 10 * number + takeDigit() : number;
        }

        /** The place of the first letter that can't be there (the end, if something lacks), or -1. */
        private int misfit() {
            at = 0;
            for (int statement = 0; statement < MOST_LETTERS; statement++) {
                String form = formOf(here());
                if (form.isEmpty()) {
                    return at;
                }
                at++;
                if (!isOfForm(form)) {
                    return at;
                }
                if (at >= size) {
                    return -1;
                }
            }
            return -1;
        }

        private static String formOf(int first) {
            switch (first) {
                case 'y': return YARDS_FORM;
                case 'w': return WIND_FORM;
                case 'p': return PLAYER_FORM;
                case 't': return TOUCH_FORM;
                case 'b': return BALL_FORM;
                default: return "";
            }
        }

        private boolean isOfForm(String form) {
            for (int i = 0; i < form.length(); i++) {
                char due = form.charAt(i);
                if (fits(due)) {
                    at++;
                } else if (due != '?') {
                    return false;
                }
            }
            return true;
        }

        private boolean fits(char due) {
            switch (due) {
                case '9':
                case '?': return isDigitHere();
                case '+': return here() == '+' || here() == '-';
                default: return here() == due;
            }
        }

        /** One statement, known to be of its form, up to its ";"; whether it is as it must be. */
        private boolean readInto(Lane lane) {
            switch (take()) {
                case 'y': return lane.becomeLong(takeNumber());
                case 'w': return lane.becomeWindy(takeSigned());
                case 'p': return readPlayer(lane);
                case 't': return readTouch(lane);
                default: return lane.startWith(takeDigit());
            }
        }

        private int takeSigned() {
            int sign = take() == '-' ? -1 : 1;
            return sign * takeDigit();
        }

        private boolean readPlayer(Lane lane) {
            int yard = takeNumber();
            take();
            int pace = takeDigit();
            return lane.addPlayer(yard, pace, takeDigit());
        }

        private boolean readTouch(Lane lane) {
            int kind = takeDigit();
            int figure = takeDigit();
            return lane.addTouch(kind, figure, takeDigit());
        }
    }

    /** A fraction in least terms. */
    private static final class Odds {
        private long above = 0;
        private long below = 1;

        private void become(long partsHad, long parts) {
            long divisor = commonDivisor(partsHad, parts);
            above = divisor < 1 ? 0 : partsHad / divisor;
            below = divisor < 1 ? 1 : parts / divisor;
        }

        private long part(int part) {
            return part == 0 ? above : below;
        }

        private static long commonDivisor(long a, long b) {
            long greater = b;
            long less = a;
            // Euclid's steps: two of them halve a long, so 200 are never needed.
            for (int i = 0; i < 200 && less != 0; i++) {
                long rest = greater % less;
                greater = less;
                less = rest;
            }
            return greater;
        }
    }
}
