import java.util.Arrays;

/** A meet of dives that is told as a text; README.md says how it is used. */
public final class DropTwo {
  public static final int NONE = -1;
  public static final int NOTHING = Integer.MIN_VALUE;

  private static final int WRONG = -2;
  private static final int REFUSED = -3;

  private static final int MOST_ROUNDS = 6;
  private static final int MOST_JUDGES = 11;
  private static final int MOST_DIVES = 10;
  private static final int MOST_ENTRANTS = 6;
  private static final int MOST_LAWS = 6;
  private static final int MOST_CUTS = 3;
  private static final int MOST_AWARD = 20;
  private static final int MOST_DROP = 3;
  private static final int MOST_RUNS = 40;
  private static final int MOST_SEED = 999999;
  private static final int GROUPS = 6;
  private static final int SORTS = 4;
  private static final int CELLS = MOST_ENTRANTS * MOST_ROUNDS;
  private static final int WITHDRAWN = 7;
  private static final int KEEPS = 2;
  private static final int TAPE_ROOM = 1200;
  private static final int FEED_BYTES = 20;

  private final Tape tape;
  private final Meet told;
  private final Meet draft;
  private final MeetReader reader;
  private final State state;
  private final State[] keeps;
  private final History past;
  private final Panel panel;
  private final Play play;
  private final Ways rows;
  private final Script acts;
  private final Outlook outlook;
  private final StringBuilder page;
  private int keptBits;
  private int faultKind;
  private int faultPlace;
  private int stoppedAt;

  public DropTwo() {
    tape = new Tape();
    told = new Meet();
    draft = new Meet();
    reader = new MeetReader(tape, draft);
    state = new State();
    keeps = new State[KEEPS];
    for (int k = 0; k < KEEPS; k++) {
      keeps[k] = new State();
    }
    past = new History();
    panel = new Panel(told);
    play = new Play(told, state, panel);
    rows = new Ways(told, state);
    acts = new Script(tape, told, play);
    outlook = new Outlook(told, state, panel, play);
    page = new StringBuilder();
    keptBits = 0;
    faultKind = 0;
    faultPlace = NONE;
    stoppedAt = NONE;
  }

  // ---- texts

  public int feed(int a, int b, int c, int d, int e) {
    if (tape.length + FEED_BYTES > TAPE_ROOM) {
      return NONE;
    }
    tape.addFour(a);
    tape.addFour(b);
    tape.addFour(c);
    tape.addFour(d);
    tape.addFour(e);
    return tape.length;
  }

  public boolean end(int n) {
    if (n < 0 || n > tape.length) {
      return false;
    }
    tape.length = n;
    return true;
  }

  public int meet() {
    int statements = reader.readAll();
    takeFault();
    if (statements < 0) {
      return NONE;
    }
    told.copyFrom(draft);
    past.forget();
    keptBits = 0;
    rows.forget();
    play.begin();
    return statements;
  }

  public int script() {
    stoppedAt = NONE;
    boolean isRead = acts.readAll();
    takeFault();
    if (!isRead) {
      return NONE;
    }
    past.note(state);
    int done = acts.runAll();
    if (done < 0) {
      stoppedAt = acts.stoppedAt;
      past.restore(state);
      return WRONG;
    }
    if (done > 0) {
      past.commit();
    }
    return done;
  }

  private void takeFault() {
    faultKind = tape.faultKind;
    faultPlace = tape.faultPlace;
    tape.length = 0;
  }

  public int fault(int what) {
    if (what == 0) {
      return faultKind;
    }
    return what == 1 ? faultPlace : NONE;
  }

  public int stopped() {
    return stoppedAt;
  }

  public int named(int what) {
    long name = tape.readLoneName();
    tape.length = 0;
    if (name == 0) {
      return NONE;
    }
    if (what == 0) {
      return told.findDive(name);
    }
    return what == 1 ? told.findEntrant(name) : NONE;
  }

  // ---- what is told

  public int look(int what) {
    switch (what) {
      case 0:
        return told.rounds;
      case 1:
        return told.drop;
      case 2:
        return told.judges;
      case 3:
        return told.dives;
      case 4:
        return told.entrants;
      case 5:
        return told.laws.size;
      case 6:
        return told.cuts;
      case 7:
        return past.size;
      case 8:
        return told.rounds > 0 && state.diver == NONE ? 1 : 0;
      case 9:
        return play.countIn();
      case 10:
        return tape.length;
      default:
        return NONE;
    }
  }

  public int dive(int dive, int what) {
    if (!told.hasDive(dive)) {
      return NONE;
    }
    if (what == 0) {
      return told.diveGroup[dive];
    }
    return what == 1 ? told.diveDegree[dive] : NONE;
  }

  public int entrant(int entrant, int what) {
    if (!told.hasEntrant(entrant)) {
      return NONE;
    }
    switch (what) {
      case 0:
        return told.pair[entrant];
      case 1:
        return told.home[entrant];
      case 2:
        return state.status[entrant];
      case 3:
        return state.given[entrant];
      default:
        return NONE;
    }
  }

  public int judge(int judge, int what) {
    if (!told.hasJudge(judge)) {
      return NONE;
    }
    if (what == 0) {
      return told.judgeLand[judge];
    }
    return what == 1 ? told.judgeSort[judge] : NONE;
  }

  public int list(int entrant, int round) {
    return isCell(entrant, round) ? state.list[cellOf(entrant, round)] : NONE;
  }

  public int form(int entrant, int group) {
    if (!told.hasEntrant(entrant) || group < 1 || group > GROUPS) {
      return NONE;
    }
    return told.form[entrant * GROUPS + group - 1];
  }

  public int cut(int cut, int what) {
    if (cut < 0 || cut >= told.cuts) {
      return NONE;
    }
    switch (what) {
      case 0:
        return told.cutRound[cut];
      case 1:
        return told.cutMost[cut];
      case 2:
        return told.cutAnew[cut];
      default:
        return NONE;
    }
  }

  private boolean isCell(int entrant, int round) {
    return told.hasEntrant(entrant) && told.hasRound(round);
  }

  private static int cellOf(int entrant, int round) {
    return entrant * MOST_ROUNDS + round - 1;
  }

  // ---- lists and laws

  public int law(int law, int entrant, int round) {
    if (law < 0 || law >= told.laws.size || !isCell(entrant, round)) {
      return NONE;
    }
    return rows.isSo(law, entrant, round) ? 1 : 0;
  }

  public int breaks(int entrant, int what) {
    if (!told.hasEntrant(entrant) || what < 0 || what > 1) {
      return NONE;
    }
    int round = rows.findBreak(entrant);
    if (what == 0) {
      return round;
    }
    return round == 0 ? NONE : rows.findBrokenLaw(entrant, round);
  }

  public int ways(int entrant) {
    return told.hasEntrant(entrant) ? rows.countRows(entrant) : NONE;
  }

  public int way(int entrant, int k, int round) {
    if (!isCell(entrant, round) || k < 0 || k >= rows.countRows(entrant)) {
      return NONE;
    }
    return rows.diveInRow(entrant, k, round);
  }

  public int best(int entrant, int what) {
    if (!told.hasEntrant(entrant) || what < 0 || what > told.rounds) {
      return NONE;
    }
    rows.allowAll();
    return rows.tellBest(entrant, what);
  }

  // ---- the board

  public int board(int what) {
    if (state.diver == NONE) {
      return NONE;
    }
    int slot = state.boardSlot();
    switch (what) {
      case 0:
        return state.diver;
      case 1:
        return state.round;
      case 2:
        return state.list[cellOf(state.diver, state.round)];
      case 3:
        return state.countMarks(slot);
      case 4:
        return told.countPanel(state.diver);
      case 5:
        return state.slots[slot + State.BALKS];
      case 6:
        return state.slots[slot + State.CAP];
      case 7:
        return state.slots[slot + State.HALVES];
      case 8:
        return state.slots[slot + State.FAILED];
      default:
        return NONE;
    }
  }

  public int marked(int judge) {
    if (state.diver == NONE || !told.hasJudge(judge)) {
      return NONE;
    }
    return state.slots[state.boardSlot() + State.AWARDS + judge];
  }

  public int mark(int judge, int award) {
    if (!told.hasJudge(judge) || !isAward(award)) {
      return WRONG;
    }
    past.note(state);
    return settle(play.doMark(judge, award));
  }

  public int balk() {
    past.note(state);
    return settle(play.doBalk());
  }

  public int cap(int award) {
    if (!isAward(award)) {
      return WRONG;
    }
    past.note(state);
    return settle(play.doCap(award));
  }

  public int half(int which) {
    if (which < 0 || which > 1) {
      return WRONG;
    }
    past.note(state);
    return settle(play.doHalf(which));
  }

  public int fail() {
    past.note(state);
    return settle(play.doFail());
  }

  public int give() {
    past.note(state);
    return settle(play.doGive());
  }

  public int out(int entrant) {
    if (!told.hasEntrant(entrant)) {
      return WRONG;
    }
    past.note(state);
    return settle(play.doOut(entrant));
  }

  public int change(int entrant, int round, int dive) {
    if (!isCell(entrant, round) || !told.hasDive(dive)) {
      return WRONG;
    }
    if (!play.isFree(entrant, round) || state.hasListed(entrant, dive)) {
      return REFUSED;
    }
    past.note(state);
    int cell = cellOf(entrant, round);
    int former = state.list[cell];
    state.list[cell] = dive;
    if (rows.findBreak(entrant) != 0) {
      state.list[cell] = former;
      return REFUSED;
    }
    return settle(former);
  }

  public int undo() {
    return past.size == 0 ? REFUSED : past.takeBack(state);
  }

  private static boolean isAward(int award) {
    return award >= 0 && award <= MOST_AWARD;
  }

  private int settle(int answer) {
    if (answer >= 0) {
      past.commit();
    }
    return answer;
  }

  // ---- points, totals, ranks

  public int points(int entrant, int round) {
    return isCell(entrant, round) ? state.pointsOf(entrant, round) : NONE;
  }

  public int award(int entrant, int round, int judge, int what) {
    if (!isJudged(entrant, round, judge)) {
      return NONE;
    }
    panel.seat(state, entrant, round);
    panel.score();
    switch (what) {
      case 0:
        return panel.awards[judge];
      case 1:
        return panel.counts[judge];
      case 2:
        return (panel.keptBits >> judge) & 1;
      default:
        return NONE;
    }
  }

  public int kept(int entrant, int round) {
    if (!isGiven(entrant, round)) {
      return NONE;
    }
    if (state.isFailed(entrant, round)) {
      return 0;
    }
    panel.seat(state, entrant, round);
    panel.score();
    return panel.keptBits;
  }

  public int total(int entrant, int what) {
    if (!told.hasEntrant(entrant)) {
      return NONE;
    }
    if (what == 0) {
      return state.total[entrant];
    }
    return what == 1 ? state.sumPoints(entrant) : NONE;
  }

  public int rank(int entrant) {
    return told.hasEntrant(entrant) ? play.rankOf(entrant) : NONE;
  }

  public int at(int i) {
    return play.entrantAt(i);
  }

  public int sheet(int k) {
    writePage();
    if (k == NONE) {
      return page.length();
    }
    return k >= 0 && k < page.length() ? page.charAt(k) : NONE;
  }

  private boolean isGiven(int entrant, int round) {
    return isCell(entrant, round) && state.pointsOf(entrant, round) >= 0;
  }

  private boolean isJudged(int entrant, int round, int judge) {
    return isGiven(entrant, round)
        && !state.isFailed(entrant, round)
        && told.hasJudge(judge)
        && told.isOnPanel(judge, entrant);
  }

  private void writePage() {
    page.setLength(0);
    for (int i = 0; i < told.entrants; i++) {
      int entrant = play.entrantAt(i);
      if (entrant == NONE) {
        continue;
      }
      int total = state.total[entrant];
      page.append(play.rankOf(entrant));
      page.append(' ');
      writeName(told.entrantName[entrant]);
      page.append(' ');
      page.append(total / 100);
      page.append('.');
      page.append((char) ('0' + total / 10 % 10));
      page.append((char) ('0' + total % 10));
      page.append(';');
    }
  }

  private void writeName(long name) {
    for (int i = Tape.NAME_LETTERS - 1; i >= 0; i--) {
      int letter = (int) (name >> (i * Tape.LETTER_BITS)) & Tape.LETTER_MASK;
      if (letter > 0) {
        page.append((char) ('a' + letter - 1));
      }
    }
  }

  // ---- what would be

  public int worth(int entrant, int round, int award) {
    if (!isCell(entrant, round) || !isAward(award)) {
      return NONE;
    }
    return told.pointsAlike(state.list[cellOf(entrant, round)], award);
  }

  public int needs(int entrant, int other) {
    if (!isOther(entrant, other) || !play.isIn(entrant)) {
      return NONE;
    }
    return outlook.leastAward(entrant, other);
  }

  public int swing(int entrant, int round, int judge) {
    return isJudged(entrant, round, judge) ? outlook.spreadOf(entrant, round, judge) : NONE;
  }

  public int bribes(int entrant, int round, int other) {
    if (!isGiven(entrant, round) || !isOther(entrant, other)) {
      return NONE;
    }
    return outlook.fewestBribes(entrant, round, other);
  }

  public int bias(int judge, int what) {
    if (!told.hasJudge(judge) || what < 0 || what > 3) {
      return NOTHING;
    }
    return outlook.biasOf(judge, what);
  }

  public int alike(int judge, int other) {
    if (!told.hasJudge(judge) || !told.hasJudge(other) || judge == other) {
      return NONE;
    }
    return outlook.countAlike(judge, other);
  }

  public int dropped(int judge, int what) {
    if (!told.hasJudge(judge) || what < 0 || what > 2) {
      return NONE;
    }
    return outlook.countPlaced(judge, what);
  }

  public int without(int judge, int entrant) {
    if (!told.hasJudge(judge) || !told.hasEntrant(entrant)) {
      return NONE;
    }
    if (told.isOnPanel(judge, entrant) && told.countSort(told.judgeSort[judge]) == 1) {
      return WRONG;
    }
    return outlook.totalAnew(entrant, judge, told.drop);
  }

  public int asDrop(int drop, int entrant) {
    if (drop < 0 || drop > MOST_DROP || !told.hasEntrant(entrant)) {
      return NONE;
    }
    return outlook.totalAnew(entrant, NONE, drop);
  }

  public int expected(int entrant) {
    if (!told.hasEntrant(entrant) || !play.isIn(entrant)) {
      return NONE;
    }
    return outlook.totalByForm(entrant, told.rounds);
  }

  public int goes(int entrant) {
    int cut = play.findNextCut();
    if (!told.hasEntrant(entrant) || !play.isIn(entrant) || cut == NONE) {
      return NONE;
    }
    return outlook.wouldGoOn(entrant, cut) ? 1 : 0;
  }

  public int order(int entrant, int what) {
    if (!told.hasEntrant(entrant) || !play.isIn(entrant) || what < 0 || what > told.rounds) {
      return NONE;
    }
    int cut = play.findNextCut();
    rows.allowOrders(entrant, cut == NONE ? told.rounds : told.cutRound[cut]);
    return rows.tellBest(entrant, what);
  }

  public int wins(int seed, int n, int entrant) {
    if (seed < 0 || seed > MOST_SEED || n < 1 || n > MOST_RUNS || !told.hasEntrant(entrant)) {
      return NONE;
    }
    return outlook.countWins(seed, n, entrant);
  }

  private boolean isOther(int entrant, int other) {
    return told.hasEntrant(entrant) && told.hasEntrant(other) && entrant != other;
  }

  // ---- kept

  public int keep(int k) {
    if (k < 0 || k >= KEEPS) {
      return WRONG;
    }
    if (told.rounds == 0) {
      return REFUSED;
    }
    keeps[k].copyFrom(state);
    keptBits |= 1 << k;
    return state.countAllGiven();
  }

  public int back(int k) {
    if (k < 0 || k >= KEEPS) {
      return WRONG;
    }
    if ((keptBits >> k & 1) == 0) {
      return REFUSED;
    }
    state.copyFrom(keeps[k]);
    past.forget();
    return state.countAllGiven();
  }

  /** The bytes that were fed, and the piece of the text that is read just now. */
  private static final class Tape {
    static final int AT_END = 0;
    static final int WORD = 1;
    static final int NAME = 2;
    static final int NUMBER = 3;
    static final int SIGN = 4;
    static final int UNFIT = 5;

    static final int ROUNDS = 0;
    static final int DROP = 1;
    static final int JUDGE = 2;
    static final int LAND = 3;
    static final int FIRST = 4;
    static final int SECOND = 5;
    static final int TOGETHER = 6;
    static final int DIVE = 7;
    static final int GROUP = 8;
    static final int DEGREE = 9;
    static final int DIVER = 10;
    static final int PAIR = 11;
    static final int LIST = 12;
    static final int FORM = 13;
    static final int LAW = 14;
    static final int CUT = 15;
    static final int MOST = 16;
    static final int ANEW = 17;
    static final int OR = 18;
    static final int AND = 19;
    static final int NOT = 20;
    static final int ROUND = 21;
    static final int SUM = 22;
    static final int SEEN = 23;
    static final int UNLIKE = 24;
    static final int TIMES = 25;
    static final int MARKS = 26;
    static final int ALL = 27;
    static final int BALK = 28;
    static final int CAP = 29;
    static final int HALF = 30;
    static final int FAIL = 31;
    static final int GIVE = 32;
    static final int OUT = 33;
    static final int WORDS = 34;

    static final int NAME_LETTERS = 7;
    static final int LETTER_BITS = 5;
    static final int LETTER_MASK = 31;
    // More than the longest word has, so that a longer one is like none of them.
    private static final int PACKED_LETTERS = 12;
    private static final int NUMBER_DIGITS = 4;

    // In the order of the numbers above: a word's number is its place here.
    private static final String LEXICON =
        "rounds drop judge land first second together dive group degree diver pair list form law cut most anew or and not round sum seen unlike times marks all balk cap half fail give out ";

    private final int[] bytes;
    private final long[] words;
    int length;
    int kind;
    int value;
    long name;
    int taken;
    int faultKind;
    int faultPlace;
    private int begin;
    private int next;

    Tape() {
      bytes = new int[TAPE_ROOM];
      words = new long[WORDS];
      int word = 0;
      for (int i = 0; i < LEXICON.length() && word < WORDS; i++) {
        char letter = LEXICON.charAt(i);
        if (letter == ' ') {
          word++;
        } else {
          words[word] = (words[word] << LETTER_BITS) + letter - 'a' + 1;
        }
      }
      faultPlace = NONE;
    }

    void addFour(int four) {
      for (int shift = 24; shift >= 0 && length < TAPE_ROOM; shift -= 8) {
        bytes[length] = (four >> shift) & 255;
        length++;
      }
    }

    void start() {
      next = 0;
      faultKind = 0;
      faultPlace = NONE;
      advance();
    }

    void advance() {
      while (next < length && (bytes[next] == ' ' || bytes[next] == '\n')) {
        next++;
      }
      begin = next;
      value = 0;
      if (next >= length) {
        kind = AT_END;
      } else if (bytes[next] >= 'a' && bytes[next] <= 'z') {
        readWord();
      } else if (bytes[next] >= '0' && bytes[next] <= '9') {
        readNumber();
      } else {
        kind = SIGN;
        value = bytes[next];
        next++;
      }
    }

    private void readWord() {
      name = 0;
      while (next < length && bytes[next] >= 'a' && bytes[next] <= 'z') {
        if (next - begin < PACKED_LETTERS) {
          name = (name << LETTER_BITS) + bytes[next] - 'a' + 1;
        }
        next++;
      }
      kind = next - begin > NAME_LETTERS ? UNFIT : NAME;
      for (int word = 0; word < WORDS; word++) {
        if (words[word] == name) {
          kind = WORD;
          value = word;
        }
      }
    }

    private void readNumber() {
      while (next < length && bytes[next] >= '0' && bytes[next] <= '9') {
        if (next - begin < NUMBER_DIGITS) {
          value = value * 10 + bytes[next] - '0';
        }
        next++;
      }
      kind = next - begin > NUMBER_DIGITS ? UNFIT : NUMBER;
    }

    boolean isWord(int word) {
      return kind == WORD && value == word;
    }

    boolean isSign(char sign) {
      return kind == SIGN && value == sign;
    }

    boolean takeWord(int word) {
      if (!isWord(word)) {
        return refuse(1);
      }
      advance();
      return true;
    }

    boolean takeSign(char sign) {
      if (!isSign(sign)) {
        return refuse(1);
      }
      advance();
      return true;
    }

    /** What was read is in taken then. */
    boolean takeNumber(int least, int most) {
      if (kind != NUMBER) {
        return refuse(1);
      }
      if (value < least || value > most) {
        return refuse(2);
      }
      taken = value;
      advance();
      return true;
    }

    boolean refuse(int fault) {
      faultKind = fault;
      faultPlace = begin;
      return false;
    }

    /** 0 if there is anything but one name; the faults stay those of the latest text. */
    long readLoneName() {
      next = 0;
      advance();
      if (kind != NAME) {
        return 0;
      }
      long lone = name;
      advance();
      return kind == AT_END ? lone : 0;
    }
  }

  /** A meet as it was told. */
  private static final class Meet {
    int rounds;
    int drop;
    int judges;
    final int[] judgeLand;
    final int[] judgeSort;
    int dives;
    final long[] diveName;
    final int[] diveGroup;
    final int[] diveDegree;
    int entrants;
    final long[] entrantName;
    final int[] pair;
    final int[] home;
    final int[] list;
    final int[] form;
    final Laws laws;
    int cuts;
    final int[] cutRound;
    final int[] cutMost;
    final int[] cutAnew;

    Meet() {
      judgeLand = new int[MOST_JUDGES];
      judgeSort = new int[MOST_JUDGES];
      diveName = new long[MOST_DIVES];
      diveGroup = new int[MOST_DIVES];
      diveDegree = new int[MOST_DIVES];
      entrantName = new long[MOST_ENTRANTS];
      pair = new int[MOST_ENTRANTS];
      home = new int[MOST_ENTRANTS];
      list = new int[CELLS];
      form = new int[MOST_ENTRANTS * GROUPS];
      laws = new Laws();
      cutRound = new int[MOST_CUTS];
      cutMost = new int[MOST_CUTS];
      cutAnew = new int[MOST_CUTS];
    }

    void clear() {
      rounds = 0;
      drop = 0;
      judges = 0;
      dives = 0;
      entrants = 0;
      cuts = 0;
      laws.clear();
      Arrays.fill(list, NONE);
      Arrays.fill(form, 10);
    }

    void copyFrom(Meet other) {
      rounds = other.rounds;
      drop = other.drop;
      judges = other.judges;
      System.arraycopy(other.judgeLand, 0, judgeLand, 0, MOST_JUDGES);
      System.arraycopy(other.judgeSort, 0, judgeSort, 0, MOST_JUDGES);
      dives = other.dives;
      System.arraycopy(other.diveName, 0, diveName, 0, MOST_DIVES);
      System.arraycopy(other.diveGroup, 0, diveGroup, 0, MOST_DIVES);
      System.arraycopy(other.diveDegree, 0, diveDegree, 0, MOST_DIVES);
      entrants = other.entrants;
      System.arraycopy(other.entrantName, 0, entrantName, 0, MOST_ENTRANTS);
      System.arraycopy(other.pair, 0, pair, 0, MOST_ENTRANTS);
      System.arraycopy(other.home, 0, home, 0, MOST_ENTRANTS);
      System.arraycopy(other.list, 0, list, 0, CELLS);
      System.arraycopy(other.form, 0, form, 0, MOST_ENTRANTS * GROUPS);
      laws.copyFrom(other.laws);
      cuts = other.cuts;
      System.arraycopy(other.cutRound, 0, cutRound, 0, MOST_CUTS);
      System.arraycopy(other.cutMost, 0, cutMost, 0, MOST_CUTS);
      System.arraycopy(other.cutAnew, 0, cutAnew, 0, MOST_CUTS);
    }

    boolean hasJudge(int judge) {
      return judge >= 0 && judge < judges;
    }

    boolean hasDive(int dive) {
      return dive >= 0 && dive < dives;
    }

    boolean hasEntrant(int entrant) {
      return entrant >= 0 && entrant < entrants;
    }

    boolean hasRound(int round) {
      return round >= 1 && round <= rounds;
    }

    int findDive(long name) {
      for (int dive = 0; dive < dives; dive++) {
        if (diveName[dive] == name) {
          return dive;
        }
      }
      return NONE;
    }

    int findEntrant(long name) {
      for (int entrant = 0; entrant < entrants; entrant++) {
        if (entrantName[entrant] == name) {
          return entrant;
        }
      }
      return NONE;
    }

    boolean isOnPanel(int judge, int entrant) {
      return (judgeSort[judge] != 0) == (pair[entrant] == 1);
    }

    int countPanel(int entrant) {
      int count = 0;
      for (int judge = 0; judge < judges; judge++) {
        if (isOnPanel(judge, entrant)) {
          count++;
        }
      }
      return count;
    }

    int countSort(int sort) {
      int count = 0;
      for (int judge = 0; judge < judges; judge++) {
        if (judgeSort[judge] == sort) {
          count++;
        }
      }
      return count;
    }

    int awardByForm(int entrant, int dive) {
      int award = form[entrant * GROUPS + diveGroup[dive] - 1] - (diveDegree[dive] - 20) / 5;
      return Math.max(0, Math.min(MOST_AWARD, award));
    }

    /** Like awards make the mean of the kept ones that award itself, whoever is dropped. */
    int pointsAlike(int dive, int award) {
      return award * 15 * diveDegree[dive];
    }

    int pointsByForm(int entrant, int dive) {
      return pointsAlike(dive, awardByForm(entrant, dive));
    }

    int findCutBehind(int round) {
      for (int cut = 0; cut < cuts; cut++) {
        if (cutRound[cut] == round) {
          return cut;
        }
      }
      return NONE;
    }
  }

  /** Laws as rows of steps: a value is put on a stack, a sign takes two of them for one. */
  private static final class Laws {
    static final int ROUNDS = 0;
    static final int ROUND = 1;
    static final int GROUP = 2;
    static final int DEGREE = 3;
    static final int SUM = 4;
    static final int SEEN = 5;
    static final int UNLIKE = 6;
    static final int PAIR = 7;
    static final int FACTS = 8;

    private static final int MOST_OPEN = 6;
    private static final int MOST_VALUES = 40;
    private static final int STACK = 64;
    private static final int FACT = 10000;
    private static final int STEP = 20000;
    private static final int OR = STEP;
    private static final int AND = STEP + 1;
    private static final int NOT = STEP + 2;

    // Each step has a byte of the text of its own, so there are no more of them than bytes.
    private final int[] steps;
    private final int[] ends;
    private final long[] stack;
    private int written;
    private int values;
    int size;

    Laws() {
      steps = new int[TAPE_ROOM];
      ends = new int[MOST_LAWS];
      stack = new long[STACK];
    }

    void clear() {
      written = 0;
      size = 0;
    }

    void copyFrom(Laws other) {
      written = other.written;
      size = other.size;
      System.arraycopy(other.steps, 0, steps, 0, TAPE_ROOM);
      System.arraycopy(other.ends, 0, ends, 0, MOST_LAWS);
    }

    /** Ahead of the reading of a law. */
    void open() {
      if (size < MOST_LAWS) {
        ends[size] = written;
        size++;
      }
      values = 0;
    }

    private void write(int step) {
      if (written < TAPE_ROOM && size > 0) {
        steps[written] = step;
        written++;
        ends[size - 1] = written;
      }
    }

    private boolean readTest(Tape tape, int open) {
      boolean isRead = readBoth(tape, open);
      for (int i = 0; i < TAPE_ROOM && isRead && tape.isWord(Tape.OR); i++) {
        tape.advance();
        isRead = readBoth(tape, open);
        write(OR);
      }
      return isRead;
    }

    private boolean readBoth(Tape tape, int open) {
      boolean isRead = readFact(tape, open);
      for (int i = 0; i < TAPE_ROOM && isRead && tape.isWord(Tape.AND); i++) {
        tape.advance();
        isRead = readFact(tape, open);
        write(AND);
      }
      return isRead;
    }

    private boolean readFact(Tape tape, int open) {
      boolean isNot = tape.isWord(Tape.NOT);
      if (isNot || tape.isSign('[')) {
        if (open >= MOST_OPEN) {
          return tape.refuse(4);
        }
        tape.advance();
        if (!isNot) {
          return readTest(tape, open + 1) && tape.takeSign(']');
        }
        boolean isRead = readFact(tape, open + 1);
        write(NOT);
        return isRead;
      }
      if (!readSum(tape, open)) {
        return false;
      }
      if (!tape.isSign('<') && !tape.isSign('>') && !tape.isSign('=')) {
        return tape.refuse(1);
      }
      int sign = tape.value;
      tape.advance();
      boolean isRead = readSum(tape, open);
      write(STEP + sign);
      return isRead;
    }

    private boolean readSum(Tape tape, int open) {
      boolean isRead = readTerm(tape, open);
      for (int i = 0; i < TAPE_ROOM && isRead && (tape.isSign('+') || tape.isSign('-')); i++) {
        int sign = tape.value;
        tape.advance();
        isRead = readTerm(tape, open);
        write(STEP + sign);
      }
      return isRead;
    }

    private boolean readTerm(Tape tape, int open) {
      boolean isRead = readValue(tape, open);
      for (int i = 0; i < TAPE_ROOM && isRead && isFactorSign(tape); i++) {
        int sign = tape.value;
        tape.advance();
        isRead = readValue(tape, open);
        write(STEP + sign);
      }
      return isRead;
    }

    private static boolean isFactorSign(Tape tape) {
      return tape.isSign('*') || tape.isSign('/') || tape.isSign('%');
    }

    private boolean readValue(Tape tape, int open) {
      if (tape.isSign('(')) {
        if (open >= MOST_OPEN) {
          return tape.refuse(4);
        }
        tape.advance();
        return readSum(tape, open + 1) && tape.takeSign(')');
      }
      int step = stepOfValue(tape);
      if (step == NONE) {
        return tape.refuse(1);
      }
      if (values >= MOST_VALUES) {
        return tape.refuse(4);
      }
      values++;
      write(step);
      tape.advance();
      return true;
    }

    private static int stepOfValue(Tape tape) {
      if (tape.kind == Tape.NUMBER) {
        return tape.value;
      }
      int fact = tape.kind == Tape.WORD ? factOfWord(tape.value) : NONE;
      return fact == NONE ? NONE : FACT + fact;
    }

    private static int factOfWord(int word) {
      switch (word) {
        case Tape.ROUNDS:
          return ROUNDS;
        case Tape.ROUND:
          return ROUND;
        case Tape.GROUP:
          return GROUP;
        case Tape.DEGREE:
          return DEGREE;
        case Tape.SUM:
          return SUM;
        case Tape.SEEN:
          return SEEN;
        case Tape.UNLIKE:
          return UNLIKE;
        case Tape.PAIR:
          return PAIR;
        default:
          return NONE;
      }
    }

    boolean isSo(int law, long[] facts) {
      int top = 0;
      for (int i = law == 0 ? 0 : ends[law - 1]; i < ends[law]; i++) {
        int step = steps[i];
        if (step < STEP) {
          if (top < STACK) {
            stack[top] = step < FACT ? step : facts[step - FACT];
            top++;
          }
        } else if (step == NOT) {
          if (top > 0) {
            stack[top - 1] = 1 - stack[top - 1];
          }
        } else if (top > 1) {
          top--;
          stack[top - 1] = join(step, stack[top - 1], stack[top]);
        }
      }
      return top > 0 && stack[0] == 1;
    }

    private static long join(int step, long a, long b) {
      switch (step - STEP) {
        case OR - STEP:
          return a | b;
        case AND - STEP:
          return a & b;
        case '<':
          return a < b ? 1 : 0;
        case '>':
          return a > b ? 1 : 0;
        case '=':
          return a == b ? 1 : 0;
        case '+':
          return a + b;
        case '-':
          return a - b;
        case '*':
          return a * b;
        case '/':
          return b == 0 ? 0 : a / b;
        default:
          return b == 0 ? 0 : a % b;
      }
    }
  }

  /** Reads a meet's text into a draft. */
  private static final class MeetReader {
    private static final int MOST_STATEMENTS = 80;

    private final Tape tape;
    private final Meet meet;

    MeetReader(Tape tape, Meet meet) {
      this.tape = tape;
      this.meet = meet;
    }

    /** How many statements; NONE with a fault, which the tape tells then. */
    int readAll() {
      meet.clear();
      tape.start();
      int statements = 0;
      while (statements <= MOST_STATEMENTS && (statements == 0 || tape.kind != Tape.AT_END)) {
        if (!mayBegin(statements) || !readStatement() || !tape.takeSign(';')) {
          return NONE;
        }
        statements++;
      }
      if (!isWhole()) {
        tape.refuse(5);
        return NONE;
      }
      return statements;
    }

    private boolean mayBegin(int statements) {
      boolean isFirst = statements == 0;
      if (tape.kind != Tape.WORD
          || !isBegin(tape.value)
          || isFirst != (tape.value == Tape.ROUNDS)) {
        return tape.refuse(1);
      }
      if (statements >= MOST_STATEMENTS || isFull(tape.value)) {
        return tape.refuse(4);
      }
      return true;
    }

    private static boolean isBegin(int word) {
      switch (word) {
        case Tape.ROUNDS:
        case Tape.JUDGE:
        case Tape.DIVE:
        case Tape.DIVER:
        case Tape.PAIR:
        case Tape.LIST:
        case Tape.FORM:
        case Tape.LAW:
        case Tape.CUT:
          return true;
        default:
          return false;
      }
    }

    private boolean isFull(int word) {
      switch (word) {
        case Tape.JUDGE:
          return meet.judges >= MOST_JUDGES;
        case Tape.DIVE:
          return meet.dives >= MOST_DIVES;
        case Tape.DIVER:
        case Tape.PAIR:
          return meet.entrants >= MOST_ENTRANTS;
        case Tape.LAW:
          return meet.laws.size >= MOST_LAWS;
        case Tape.CUT:
          return meet.cuts >= MOST_CUTS;
        default:
          return false;
      }
    }

    private boolean readStatement() {
      int word = tape.value;
      tape.advance();
      switch (word) {
        case Tape.ROUNDS:
          return readRounds();
        case Tape.JUDGE:
          return readJudge();
        case Tape.DIVE:
          return readDive();
        case Tape.DIVER:
          return readEntrant(0);
        case Tape.PAIR:
          return readEntrant(1);
        case Tape.LIST:
          return readList();
        case Tape.FORM:
          return readForm();
        case Tape.LAW:
          meet.laws.open();
          return meet.laws.readTest(tape, 0);
        default:
          return readCut();
      }
    }

    private boolean readRounds() {
      if (!tape.takeNumber(1, MOST_ROUNDS)) {
        return false;
      }
      meet.rounds = tape.taken;
      if (!tape.takeWord(Tape.DROP) || !tape.takeNumber(0, MOST_DROP)) {
        return false;
      }
      meet.drop = tape.taken;
      return true;
    }

    private boolean readJudge() {
      if (!tape.takeWord(Tape.LAND) || !tape.takeNumber(0, 7)) {
        return false;
      }
      int sort = 0;
      if (tape.isWord(Tape.FIRST)) {
        sort = 1;
      } else if (tape.isWord(Tape.SECOND)) {
        sort = 2;
      } else if (tape.isWord(Tape.TOGETHER)) {
        sort = 3;
      }
      if (sort > 0) {
        tape.advance();
      }
      meet.judgeLand[meet.judges] = tape.taken;
      meet.judgeSort[meet.judges] = sort;
      meet.judges++;
      return true;
    }

    private boolean takeNewName() {
      if (tape.kind != Tape.NAME) {
        return tape.refuse(1);
      }
      if (meet.findDive(tape.name) != NONE || meet.findEntrant(tape.name) != NONE) {
        return tape.refuse(3);
      }
      return true;
    }

    private boolean readDive() {
      if (!takeNewName()) {
        return false;
      }
      meet.diveName[meet.dives] = tape.name;
      tape.advance();
      if (!tape.takeWord(Tape.GROUP) || !tape.takeNumber(1, GROUPS)) {
        return false;
      }
      meet.diveGroup[meet.dives] = tape.taken;
      if (!tape.takeWord(Tape.DEGREE) || !tape.takeNumber(10, 60)) {
        return false;
      }
      meet.diveDegree[meet.dives] = tape.taken;
      meet.dives++;
      return true;
    }

    private boolean readEntrant(int pair) {
      if (!takeNewName()) {
        return false;
      }
      meet.entrantName[meet.entrants] = tape.name;
      tape.advance();
      if (!tape.takeWord(Tape.LAND) || !tape.takeNumber(0, 7)) {
        return false;
      }
      meet.pair[meet.entrants] = pair;
      meet.home[meet.entrants] = tape.taken;
      meet.entrants++;
      return true;
    }

    /** NONE with a fault. */
    private int takeEntrant() {
      if (tape.kind != Tape.NAME) {
        tape.refuse(1);
        return NONE;
      }
      int entrant = meet.findEntrant(tape.name);
      if (entrant == NONE) {
        tape.refuse(3);
      }
      return entrant;
    }

    private boolean readList() {
      int entrant = takeEntrant();
      if (entrant == NONE) {
        return false;
      }
      int begin = entrant * MOST_ROUNDS;
      if (meet.list[begin] != NONE) {
        return tape.refuse(3);
      }
      tape.advance();
      for (int i = 0; i < meet.rounds; i++) {
        if (tape.kind != Tape.NAME) {
          return tape.refuse(1);
        }
        int dive = meet.findDive(tape.name);
        if (dive == NONE || isListed(begin, begin + i, dive)) {
          return tape.refuse(3);
        }
        meet.list[begin + i] = dive;
        tape.advance();
      }
      return true;
    }

    private boolean isListed(int from, int to, int dive) {
      for (int cell = from; cell < to; cell++) {
        if (meet.list[cell] == dive) {
          return true;
        }
      }
      return false;
    }

    private boolean readForm() {
      int entrant = takeEntrant();
      if (entrant == NONE) {
        return false;
      }
      tape.advance();
      for (int i = 0; i < GROUPS; i++) {
        if (!tape.takeNumber(0, MOST_AWARD)) {
          return false;
        }
        meet.form[entrant * GROUPS + i] = tape.taken;
      }
      return true;
    }

    private boolean readCut() {
      int least = meet.cuts == 0 ? 1 : meet.cutRound[meet.cuts - 1] + 1;
      if (!tape.takeNumber(least, meet.rounds - 1)) {
        return false;
      }
      meet.cutRound[meet.cuts] = tape.taken;
      if (!tape.takeWord(Tape.MOST) || !tape.takeNumber(1, 5)) {
        return false;
      }
      meet.cutMost[meet.cuts] = tape.taken;
      meet.cutAnew[meet.cuts] = tape.isWord(Tape.ANEW) ? 1 : 0;
      if (meet.cutAnew[meet.cuts] == 1) {
        tape.advance();
      }
      meet.cuts++;
      return true;
    }

    private boolean isWhole() {
      for (int entrant = 0; entrant < meet.entrants; entrant++) {
        if (meet.list[entrant * MOST_ROUNDS] == NONE || !hasPanel(meet.pair[entrant] == 1)) {
          return false;
        }
      }
      return meet.entrants > 0;
    }

    private boolean hasPanel(boolean isPair) {
      if (!isPair) {
        return meet.countSort(0) > 0;
      }
      return meet.countSort(1) > 0 && meet.countSort(2) > 0 && meet.countSort(3) > 0;
    }
  }

  /** All that acts change: lists, dives, who is in, who is at the board. */
  private static final class State {
    /** What a dive's slot has, one number each, and then one for each judge. */
    static final int POINTS = 0;
    static final int FAILED = 1;
    static final int CAP = 2;
    static final int BALKS = 3;
    static final int HALVES = 4;
    static final int AWARDS = 5;
    static final int SLOT = AWARDS + MOST_JUDGES;

    final int[] list;
    final int[] slots;
    final int[] status;
    final int[] base;
    final int[] queue;
    final int[] given;
    final int[] total;
    int round;
    int turn;
    int diver;

    State() {
      list = new int[CELLS];
      slots = new int[CELLS * SLOT];
      status = new int[MOST_ENTRANTS];
      base = new int[MOST_ENTRANTS];
      queue = new int[MOST_ENTRANTS];
      given = new int[MOST_ENTRANTS];
      total = new int[MOST_ENTRANTS];
      diver = NONE;
    }

    void copyFrom(State other) {
      System.arraycopy(other.list, 0, list, 0, CELLS);
      System.arraycopy(other.slots, 0, slots, 0, CELLS * SLOT);
      System.arraycopy(other.status, 0, status, 0, MOST_ENTRANTS);
      System.arraycopy(other.base, 0, base, 0, MOST_ENTRANTS);
      System.arraycopy(other.queue, 0, queue, 0, MOST_ENTRANTS);
      System.arraycopy(other.given, 0, given, 0, MOST_ENTRANTS);
      System.arraycopy(other.total, 0, total, 0, MOST_ENTRANTS);
      round = other.round;
      turn = other.turn;
      diver = other.diver;
    }

    static int slotOf(int entrant, int round) {
      return (entrant * MOST_ROUNDS + round - 1) * SLOT;
    }

    /** Only while somebody is at the board. */
    int boardSlot() {
      return (diver * MOST_ROUNDS + round - 1) * SLOT;
    }

    void clearSlot(int slot) {
      slots[slot + POINTS] = NONE;
      slots[slot + FAILED] = 0;
      slots[slot + CAP] = MOST_AWARD;
      slots[slot + BALKS] = 0;
      slots[slot + HALVES] = 0;
      clearMarks(slot);
    }

    void clearMarks(int slot) {
      for (int judge = 0; judge < MOST_JUDGES; judge++) {
        slots[slot + AWARDS + judge] = NONE;
      }
    }

    int countMarks(int slot) {
      int count = 0;
      for (int judge = 0; judge < MOST_JUDGES; judge++) {
        if (slots[slot + AWARDS + judge] != NONE) {
          count++;
        }
      }
      return count;
    }

    int pointsOf(int entrant, int round) {
      return slots[slotOf(entrant, round) + POINTS];
    }

    boolean isFailed(int entrant, int round) {
      return slots[slotOf(entrant, round) + FAILED] == 1;
    }

    int countAllGiven() {
      int count = 0;
      for (int entrant = 0; entrant < MOST_ENTRANTS; entrant++) {
        count += given[entrant];
      }
      return count;
    }

    int sumPoints(int entrant) {
      int sum = 0;
      for (int r = 1; r <= MOST_ROUNDS; r++) {
        sum += Math.max(0, pointsOf(entrant, r));
      }
      return sum;
    }

    boolean hasListed(int entrant, int dive) {
      for (int r = 1; r <= MOST_ROUNDS; r++) {
        if (list[cellOf(entrant, r)] == dive) {
          return true;
        }
      }
      return false;
    }
  }

  /** States ahead of the latest acts; one room more, for a state that is noted but not yet past. */
  private static final class History {
    private static final int MOST_ACTS = 20;
    private static final int ROOM = MOST_ACTS + 1;

    private final State[] states;
    private int next;
    int size;

    History() {
      states = new State[ROOM];
      for (int i = 0; i < ROOM; i++) {
        states[i] = new State();
      }
    }

    void forget() {
      next = 0;
      size = 0;
    }

    void note(State state) {
      states[next].copyFrom(state);
    }

    void restore(State state) {
      state.copyFrom(states[next]);
    }

    void commit() {
      next = (next + 1) % ROOM;
      size = Math.min(MOST_ACTS, size + 1);
    }

    /** Only if there is one. */
    int takeBack(State state) {
      next = (next + MOST_ACTS) % ROOM;
      size--;
      restore(state);
      return size;
    }
  }

  /** The judges of one dive: what counts of their awards, who is kept. */
  private static final class Panel {
    private final Meet meet;
    final int[] awards;
    final int[] counts;
    private final int[] row;
    int drop;
    int seated;
    private int cap;
    private int balks;
    private int halves;
    private int degree;
    int keptBits;
    int firstBits;
    int lastBits;

    Panel(Meet meet) {
      this.meet = meet;
      awards = new int[MOST_JUDGES];
      counts = new int[MOST_JUDGES];
      row = new int[MOST_JUDGES];
    }

    void seat(State state, int entrant, int round) {
      int slot = State.slotOf(entrant, round);
      cap = state.slots[slot + State.CAP];
      balks = state.slots[slot + State.BALKS];
      halves = state.slots[slot + State.HALVES];
      int dive = state.list[cellOf(entrant, round)];
      degree = meet.hasDive(dive) ? meet.diveDegree[dive] : 0;
      drop = meet.drop;
      seated = 0;
      for (int judge = 0; judge < meet.judges; judge++) {
        awards[judge] = state.slots[slot + State.AWARDS + judge];
        if (meet.isOnPanel(judge, entrant)) {
          seated |= 1 << judge;
        }
      }
    }

    private boolean isOfSort(int judge, int sort) {
      return (seated >> judge & 1) == 1 && meet.judgeSort[judge] == sort;
    }

    /** The points of the dive by the awards as they stand in awards. */
    int score() {
      keptBits = 0;
      firstBits = 0;
      lastBits = 0;
      for (int sort = 0; sort < SORTS; sort++) {
        trim(lineUp(sort));
      }
      int sum = 0;
      for (int judge = 0; judge < meet.judges; judge++) {
        if ((keptBits >> judge & 1) == 1) {
          sum += counts[judge];
        }
      }
      int kept = Integer.bitCount(keptBits);
      return kept == 0 ? 0 : sum * 15 * degree / kept;
    }

    private int lineUp(int sort) {
      int size = 0;
      for (int judge = 0; judge < meet.judges; judge++) {
        if (!isOfSort(judge, sort)) {
          continue;
        }
        counts[judge] = countOf(awards[judge], sort);
        int place = size;
        while (place > 0 && counts[row[place - 1]] > counts[judge]) {
          row[place] = row[place - 1];
          place--;
        }
        row[place] = judge;
        size++;
      }
      return size;
    }

    private int countOf(int award, int sort) {
      int count = Math.min(award, cap);
      if (sort == 1 && (halves & 1) != 0 || sort == 2 && (halves & 2) != 0) {
        count = 0;
      }
      if (sort == 3 && halves != 0) {
        count = Math.min(count, 4);
      }
      return balks > 0 ? Math.max(0, count - 4) : count;
    }

    private void trim(int size) {
      int less = Math.min(drop, (size - 1) / 2);
      for (int place = 0; place < size; place++) {
        int bit = 1 << row[place];
        if (place < less) {
          firstBits |= bit;
        } else if (place >= size - less) {
          lastBits |= bit;
        } else {
          keptBits |= bit;
        }
      }
    }

    /** How many of a judge's sort stand ahead of it by awards, of like ones by numbers. */
    int placeOf(int judge) {
      int place = 0;
      for (int other = 0; other < meet.judges; other++) {
        if (isOfSort(other, meet.judgeSort[judge])
            && (awards[other] < awards[judge] || awards[other] == awards[judge] && other < judge)) {
          place++;
        }
      }
      return place;
    }

    int countOfSort(int sort) {
      int count = 0;
      for (int judge = 0; judge < meet.judges; judge++) {
        if (isOfSort(judge, sort)) {
          count++;
        }
      }
      return count;
    }

    int middleOf(int sort) {
      int middle = (countOfSort(sort) - 1) / 2;
      for (int judge = 0; judge < meet.judges; judge++) {
        if (isOfSort(judge, sort) && placeOf(judge) == middle) {
          return awards[judge];
        }
      }
      return 0;
    }
  }

  /** The course of a meet: what acts do, who is next, cuts, ranks. */
  private static final class Play {
    private final Meet meet;
    private final State state;
    private final Panel panel;
    private final int[] totals;

    Play(Meet meet, State state, Panel panel) {
      this.meet = meet;
      this.state = state;
      this.panel = panel;
      totals = new int[MOST_ENTRANTS];
    }

    void begin() {
      System.arraycopy(meet.list, 0, state.list, 0, CELLS);
      for (int cell = 0; cell < CELLS; cell++) {
        state.clearSlot(cell * State.SLOT);
      }
      for (int entrant = 0; entrant < MOST_ENTRANTS; entrant++) {
        state.status[entrant] = 0;
        state.base[entrant] = 0;
        state.queue[entrant] = entrant;
        state.given[entrant] = 0;
        state.total[entrant] = 0;
      }
      state.round = 1;
      state.turn = NONE;
      callNext();
    }

    boolean isIn(int entrant) {
      return state.status[entrant] == 0;
    }

    int countIn() {
      int count = 0;
      for (int entrant = 0; entrant < meet.entrants; entrant++) {
        if (isIn(entrant)) {
          count++;
        }
      }
      return count;
    }

    private void callNext() {
      state.diver = NONE;
      callFrom(state.turn + 1);
      if (state.diver != NONE) {
        return;
      }
      int cut = meet.findCutBehind(state.round);
      if (cut != NONE) {
        doCut(cut);
      }
      if (state.round < meet.rounds && countIn() > 0) {
        state.round++;
        callFrom(0);
      }
    }

    private void callFrom(int first) {
      for (int turn = first; turn < meet.entrants; turn++) {
        int entrant = state.queue[turn];
        if (state.status[entrant] == 0) {
          state.turn = turn;
          state.diver = entrant;
          return;
        }
      }
    }

    private void doCut(int cut) {
      for (int entrant = 0; entrant < meet.entrants; entrant++) {
        totals[entrant] = isIn(entrant) ? state.total[entrant] : NONE;
      }
      for (int entrant = 0; entrant < meet.entrants; entrant++) {
        if (totals[entrant] == NONE) {
          continue;
        }
        if (!isAmong(totals, entrant, meet.cutMost[cut])) {
          state.status[entrant] = state.round;
        } else if (meet.cutAnew[cut] == 1) {
          state.base[entrant] = state.round;
          state.total[entrant] = 0;
        }
      }
      queueByTotals();
    }

    /** Whether fewer than so many have more than an entrant; who is not in has NONE. */
    boolean isAmong(int[] sums, int entrant, int most) {
      int ahead = 0;
      for (int other = 0; other < meet.entrants; other++) {
        if (sums[other] > sums[entrant]) {
          ahead++;
        }
      }
      return ahead < most;
    }

    private void queueByTotals() {
      for (int entrant = 0; entrant < meet.entrants; entrant++) {
        int place = 0;
        for (int other = 0; other < meet.entrants; other++) {
          if (totals[other] < totals[entrant]
              || totals[other] == totals[entrant] && other > entrant) {
            place++;
          }
        }
        state.queue[place] = entrant;
      }
    }

    /** The cut that comes next; NONE if none does. */
    int findNextCut() {
      if (state.diver == NONE) {
        return NONE;
      }
      for (int cut = 0; cut < meet.cuts; cut++) {
        if (meet.cutRound[cut] >= state.round) {
          return cut;
        }
      }
      return NONE;
    }

    /** Whether an entrant's dive of a round can still be another one. */
    boolean isFree(int entrant, int round) {
      return isIn(entrant)
          && state.diver != NONE
          && state.pointsOf(entrant, round) < 0
          && !(state.diver == entrant && state.round == round);
    }

    private boolean isReady() {
      return state.diver != NONE && state.slots[state.boardSlot() + State.FAILED] == 0;
    }

    int doMark(int judge, int award) {
      if (!isReady() || !meet.isOnPanel(judge, state.diver)) {
        return REFUSED;
      }
      int slot = state.boardSlot();
      state.slots[slot + State.AWARDS + judge] = award;
      return state.countMarks(slot);
    }

    int doAll(int award) {
      if (!isReady()) {
        return REFUSED;
      }
      int from = state.boardSlot() + State.AWARDS;
      for (int judge = 0; judge < meet.judges; judge++) {
        if (meet.isOnPanel(judge, state.diver)) {
          state.slots[from + judge] = award;
        }
      }
      return 0;
    }

    int doMarks(int[] row, int from, int count) {
      if (!isReady() || count != meet.countPanel(state.diver)) {
        return REFUSED;
      }
      int first = state.boardSlot() + State.AWARDS;
      int next = from;
      for (int judge = 0; judge < meet.judges && next < row.length; judge++) {
        if (meet.isOnPanel(judge, state.diver)) {
          state.slots[first + judge] = row[next];
          next++;
        }
      }
      return 0;
    }

    int doBalk() {
      if (!isReady()) {
        return REFUSED;
      }
      int place = state.boardSlot() + State.BALKS;
      state.slots[place]++;
      if (state.slots[place] > 1) {
        doFail();
      }
      return state.slots[place];
    }

    int doCap(int award) {
      if (!isReady()) {
        return REFUSED;
      }
      int place = state.boardSlot() + State.CAP;
      int former = state.slots[place];
      state.slots[place] = award;
      return former;
    }

    int doHalf(int which) {
      if (!isReady() || meet.pair[state.diver] == 0) {
        return REFUSED;
      }
      int place = state.boardSlot() + State.HALVES;
      if ((state.slots[place] >> which & 1) == 1) {
        return REFUSED;
      }
      state.slots[place] |= 1 << which;
      return state.slots[place];
    }

    int doFail() {
      if (!isReady()) {
        return REFUSED;
      }
      int slot = state.boardSlot();
      state.slots[slot + State.FAILED] = 1;
      state.clearMarks(slot);
      return 0;
    }

    int doGive() {
      if (state.diver == NONE) {
        return REFUSED;
      }
      int slot = state.boardSlot();
      int points = 0;
      if (isReady()) {
        if (state.countMarks(slot) < meet.countPanel(state.diver)) {
          return REFUSED;
        }
        panel.seat(state, state.diver, state.round);
        points = panel.score();
      }
      state.slots[slot + State.POINTS] = points;
      state.given[state.diver]++;
      state.total[state.diver] += points;
      callNext();
      return points;
    }

    int doOut(int entrant) {
      if (state.diver == NONE || !isIn(entrant)) {
        return REFUSED;
      }
      state.status[entrant] = WITHDRAWN;
      if (state.diver == entrant) {
        callNext();
      }
      // Counted last: a cut may have come behind the one that went out.
      return countIn();
    }

    int rankOf(int entrant) {
      int rank = 1;
      for (int other = 0; other < meet.entrants; other++) {
        if (isAhead(other, entrant)) {
          rank++;
        }
      }
      return rank;
    }

    private boolean isAhead(int entrant, int other) {
      int standing = standingOf(entrant);
      int otherStanding = standingOf(other);
      if (standing != otherStanding) {
        return standing > otherStanding;
      }
      return state.total[entrant] > state.total[other];
    }

    private int standingOf(int entrant) {
      int status = state.status[entrant];
      if (status == WITHDRAWN) {
        return 0;
      }
      return status == 0 ? WITHDRAWN : status;
    }

    int entrantAt(int i) {
      for (int entrant = 0; entrant < meet.entrants; entrant++) {
        int rank = rankOf(entrant);
        int place = rank - 1;
        for (int other = 0; other < entrant; other++) {
          if (rankOf(other) == rank) {
            place++;
          }
        }
        if (place == i) {
          return entrant;
        }
      }
      return NONE;
    }
  }

  /** Rows that obey. What a law tells hangs on which dives are ahead, not on their order. */
  private static final class Ways {
    private static final int SETS = 1 << MOST_DIVES;

    private final Meet meet;
    private final State state;
    private final long[] facts;
    private final int[] fits;
    private final int[] counts;
    private final int[] tops;
    private final int[] allowed;
    private final int[] weighs;
    private int knownBits;

    Ways(Meet meet, State state) {
      this.meet = meet;
      this.state = state;
      facts = new long[Laws.FACTS];
      fits = new int[2 * SETS];
      counts = new int[2 * SETS];
      tops = new int[SETS];
      allowed = new int[MOST_ROUNDS];
      weighs = new int[MOST_ROUNDS];
    }

    void forget() {
      knownBits = 0;
    }

    private void gather(int ahead, int dive, int pair) {
      int group = meet.diveGroup[dive];
      int sum = meet.diveDegree[dive];
      int seen = 1;
      int groups = 1 << group;
      for (int other = 0; other < meet.dives; other++) {
        if ((ahead >> other & 1) == 1) {
          sum += meet.diveDegree[other];
          seen += meet.diveGroup[other] == group ? 1 : 0;
          groups |= 1 << meet.diveGroup[other];
        }
      }
      facts[Laws.ROUNDS] = meet.rounds;
      facts[Laws.ROUND] = Integer.bitCount(ahead) + 1;
      facts[Laws.GROUP] = group;
      facts[Laws.DEGREE] = meet.diveDegree[dive];
      facts[Laws.SUM] = sum;
      facts[Laws.SEEN] = seen;
      facts[Laws.UNLIKE] = Integer.bitCount(groups);
      facts[Laws.PAIR] = pair;
    }

    private void gatherRound(int entrant, int round) {
      int ahead = 0;
      for (int r = 1; r < round; r++) {
        ahead |= 1 << state.list[cellOf(entrant, r)];
      }
      gather(ahead, state.list[cellOf(entrant, round)], meet.pair[entrant]);
    }

    boolean isSo(int law, int entrant, int round) {
      gatherRound(entrant, round);
      return meet.laws.isSo(law, facts);
    }

    int findBrokenLaw(int entrant, int round) {
      gatherRound(entrant, round);
      for (int law = 0; law < meet.laws.size; law++) {
        if (!meet.laws.isSo(law, facts)) {
          return law;
        }
      }
      return NONE;
    }

    /** 0 if the list obeys. */
    int findBreak(int entrant) {
      for (int round = 1; round <= meet.rounds; round++) {
        if (findBrokenLaw(entrant, round) != NONE) {
          return round;
        }
      }
      return 0;
    }

    private boolean isFit(int ahead, int dive, int pair) {
      gather(ahead, dive, pair);
      for (int law = 0; law < meet.laws.size; law++) {
        if (!meet.laws.isSo(law, facts)) {
          return false;
        }
      }
      return true;
    }

    private void learn(int pair) {
      if ((knownBits >> pair & 1) == 1) {
        return;
      }
      knownBits |= 1 << pair;
      int from = pair * SETS;
      int sets = 1 << meet.dives;
      learnFits(pair, from, sets);
      for (int set = sets - 1; set >= 0; set--) {
        int count = Integer.bitCount(set) == meet.rounds ? 1 : 0;
        for (int dive = 0; dive < meet.dives; dive++) {
          if ((fits[from + set] >> dive & 1) == 1) {
            count += counts[from + (set | 1 << dive)];
          }
        }
        counts[from + set] = count;
      }
    }

    /** Sets that no row which obeys so far has are passed by; counts tells them meanwhile. */
    private void learnFits(int pair, int from, int sets) {
      for (int set = 0; set < sets; set++) {
        fits[from + set] = 0;
        counts[from + set] = set == 0 ? 1 : 0;
      }
      for (int set = 0; set < sets; set++) {
        if (counts[from + set] == 0 || Integer.bitCount(set) >= meet.rounds) {
          continue;
        }
        for (int dive = 0; dive < meet.dives; dive++) {
          if ((set >> dive & 1) == 0 && isFit(set, dive, pair)) {
            fits[from + set] |= 1 << dive;
            counts[from + (set | 1 << dive)] = 1;
          }
        }
      }
    }

    int countRows(int entrant) {
      learn(meet.pair[entrant]);
      return counts[meet.pair[entrant] * SETS];
    }

    /** Only for a k below countRows. */
    int diveInRow(int entrant, int k, int round) {
      int from = meet.pair[entrant] * SETS;
      int set = 0;
      int left = k;
      int chosen = NONE;
      for (int r = 1; r <= round; r++) {
        chosen = NONE;
        for (int dive = 0; dive < meet.dives && chosen == NONE; dive++) {
          if ((fits[from + set] >> dive & 1) == 1) {
            int rows = counts[from + (set | 1 << dive)];
            if (left < rows) {
              chosen = dive;
            } else {
              left -= rows;
            }
          }
        }
        if (chosen == NONE) {
          return NONE;
        }
        set |= 1 << chosen;
      }
      return chosen;
    }

    void allowAll() {
      Arrays.fill(allowed, SETS - 1);
      Arrays.fill(weighs, 1);
    }

    /** Dives that are given or at the board stay; the others may go to any round of the others. */
    void allowOrders(int entrant, int lastRound) {
      int free = 0;
      for (int round = 1; round <= meet.rounds; round++) {
        int dive = 1 << state.list[cellOf(entrant, round)];
        allowed[round - 1] = dive;
        boolean isGiven = state.pointsOf(entrant, round) >= 0;
        weighs[round - 1] = isGiven || round > lastRound ? 0 : 1;
        if (!isFixed(entrant, round)) {
          free |= dive;
        }
      }
      for (int round = 1; round <= meet.rounds; round++) {
        if (!isFixed(entrant, round)) {
          allowed[round - 1] = free;
        }
      }
    }

    private boolean isFixed(int entrant, int round) {
      return state.pointsOf(entrant, round) >= 0
          || state.diver == entrant && state.round == round;
    }

    /** Of the best row that is allowed 0 its points, 1 on its dives; NONE if there is no row. */
    int tellBest(int entrant, int what) {
      learn(meet.pair[entrant]);
      findTops(entrant);
      if (what == 0 || tops[0] == NONE) {
        return tops[0];
      }
      int set = 0;
      int chosen = NONE;
      for (int round = 1; round <= what; round++) {
        chosen = findTopDive(entrant, set);
        if (chosen == NONE) {
          return NONE;
        }
        set |= 1 << chosen;
      }
      return chosen;
    }

    /** For each set of dives ahead the most points that the rounds behind can still have. */
    private void findTops(int entrant) {
      for (int set = (1 << meet.dives) - 1; set >= 0; set--) {
        int dives = Integer.bitCount(set);
        tops[set] = dives == meet.rounds ? 0 : NONE;
        if (dives >= meet.rounds) {
          continue;
        }
        for (int dive = 0; dive < meet.dives; dive++) {
          tops[set] = Math.max(tops[set], pointsBy(entrant, set, dive));
        }
      }
    }

    private int findTopDive(int entrant, int set) {
      if (Integer.bitCount(set) >= meet.rounds) {
        return NONE;
      }
      for (int dive = 0; dive < meet.dives; dive++) {
        int points = pointsBy(entrant, set, dive);
        if (points != NONE && points == tops[set]) {
          return dive;
        }
      }
      return NONE;
    }

    /** The most points from a round on whose dive is told; NONE if that can't be. */
    private int pointsBy(int entrant, int set, int dive) {
      int ahead = Integer.bitCount(set);
      int may = fits[meet.pair[entrant] * SETS + set] & allowed[ahead];
      if ((may >> dive & 1) == 0 || tops[set | 1 << dive] == NONE) {
        return NONE;
      }
      return tops[set | 1 << dive] + weighs[ahead] * meet.pointsByForm(entrant, dive);
    }
  }

  /** Acts as a text: read wholly first, then done one behind the other. */
  private static final class Script {
    private static final int MOST_ACTS = 60;
    private static final int MOST_TIMES = 20;

    private final Tape tape;
    private final Meet meet;
    private final Play play;
    private final int[] acts;
    private final int[] details;
    private final int[] times;
    private final int[] awards;
    private int size;
    int stoppedAt;

    Script(Tape tape, Meet meet, Play play) {
      this.tape = tape;
      this.meet = meet;
      this.play = play;
      acts = new int[MOST_ACTS];
      details = new int[MOST_ACTS];
      times = new int[MOST_ACTS];
      awards = new int[MOST_ACTS * MOST_JUDGES];
    }

    /** False with a fault, which the tape tells then. */
    boolean readAll() {
      size = 0;
      tape.start();
      while (size <= MOST_ACTS && tape.kind != Tape.AT_END) {
        if (!mayBegin() || !readAct() || !readTimes() || !tape.takeSign(';')) {
          return false;
        }
        size++;
      }
      return true;
    }

    private boolean mayBegin() {
      if (tape.kind != Tape.WORD || !isAct(tape.value)) {
        return tape.refuse(1);
      }
      return size < MOST_ACTS || tape.refuse(4);
    }

    private static boolean isAct(int word) {
      switch (word) {
        case Tape.MARKS:
        case Tape.ALL:
        case Tape.BALK:
        case Tape.CAP:
        case Tape.HALF:
        case Tape.FAIL:
        case Tape.GIVE:
        case Tape.OUT:
          return true;
        default:
          return false;
      }
    }

    private boolean readAct() {
      acts[size] = tape.value;
      details[size] = 0;
      tape.advance();
      switch (acts[size]) {
        case Tape.MARKS:
          return readMarks();
        case Tape.ALL:
        case Tape.CAP:
          return readAward();
        case Tape.HALF:
          return readHalf();
        case Tape.OUT:
          return readOut();
        default:
          return true;
      }
    }

    private boolean readMarks() {
      int count = 0;
      do {
        if (!tape.takeNumber(0, MOST_AWARD)) {
          return false;
        }
        awards[size * MOST_JUDGES + count] = tape.taken;
        count++;
      } while (count < MOST_JUDGES && tape.kind == Tape.NUMBER);
      details[size] = count;
      if (tape.kind == Tape.NUMBER) {
        return tape.refuse(tape.value > MOST_AWARD ? 2 : 4);
      }
      return true;
    }

    private boolean readAward() {
      if (!tape.takeNumber(0, MOST_AWARD)) {
        return false;
      }
      details[size] = tape.taken;
      return true;
    }

    private boolean readHalf() {
      if (!tape.isWord(Tape.FIRST) && !tape.isWord(Tape.SECOND)) {
        return tape.refuse(1);
      }
      details[size] = tape.isWord(Tape.FIRST) ? 0 : 1;
      tape.advance();
      return true;
    }

    private boolean readOut() {
      if (tape.kind != Tape.NAME) {
        return tape.refuse(1);
      }
      details[size] = meet.findEntrant(tape.name);
      if (details[size] == NONE) {
        return tape.refuse(3);
      }
      tape.advance();
      return true;
    }

    private boolean readTimes() {
      times[size] = 1;
      if (!tape.isWord(Tape.TIMES)) {
        return true;
      }
      tape.advance();
      if (!tape.takeNumber(1, MOST_TIMES)) {
        return false;
      }
      times[size] = tape.taken;
      return true;
    }

    /** How many acts were done; below 0 if one can't be, which stoppedAt tells then. */
    int runAll() {
      int done = 0;
      for (int i = 0; i < size; i++) {
        for (int time = 0; time < times[i]; time++) {
          if (runAct(i) < 0) {
            stoppedAt = i;
            return NONE;
          }
          done++;
        }
      }
      return done;
    }

    private int runAct(int i) {
      switch (acts[i]) {
        case Tape.MARKS:
          return play.doMarks(awards, i * MOST_JUDGES, details[i]);
        case Tape.ALL:
          return play.doAll(details[i]);
        case Tape.BALK:
          return play.doBalk();
        case Tape.CAP:
          return play.doCap(details[i]);
        case Tape.HALF:
          return play.doHalf(details[i]);
        case Tape.FAIL:
          return play.doFail();
        case Tape.GIVE:
          return play.doGive();
        default:
          return play.doOut(details[i]);
      }
    }
  }

  /** What would be, or would have been. */
  private static final class Outlook {
    private final Meet meet;
    private final State state;
    private final Panel panel;
    private final Play play;
    private final State trial;
    private final Play trialPlay;
    private final int[] sums;
    private final int[] places;
    private final int[] marks;
    private int drawn;

    Outlook(Meet meet, State state, Panel panel, Play play) {
      this.meet = meet;
      this.state = state;
      this.panel = panel;
      this.play = play;
      trial = new State();
      trialPlay = new Play(meet, trial, panel);
      sums = new int[MOST_ENTRANTS];
      places = new int[MOST_JUDGES];
      marks = new int[MOST_JUDGES];
    }

    int leastAward(int entrant, int other) {
      int round = state.given[entrant] + 1;
      if (round > meet.rounds) {
        return NONE;
      }
      int dive = state.list[cellOf(entrant, round)];
      int behind = state.total[other] - state.total[entrant];
      for (int award = 0; award <= MOST_AWARD; award++) {
        if (meet.pointsAlike(dive, award) > behind) {
          return award;
        }
      }
      return NONE;
    }

    /** A greater award never makes fewer points, so the ends are enough. */
    int spreadOf(int entrant, int round, int judge) {
      panel.seat(state, entrant, round);
      panel.awards[judge] = MOST_AWARD;
      int most = panel.score();
      panel.awards[judge] = 0;
      return most - panel.score();
    }

    int fewestBribes(int entrant, int round, int other) {
      int behind = state.total[other] - state.total[entrant];
      if (behind < 0) {
        return 0;
      }
      if (state.isFailed(entrant, round) || round <= state.base[entrant]) {
        return WRONG;
      }
      panel.seat(state, entrant, round);
      for (int judge = 0; judge < meet.judges; judge++) {
        places[judge] = panel.placeOf(judge);
        marks[judge] = panel.awards[judge];
      }
      int fewest = tryBribes(meet.pair[entrant], state.pointsOf(entrant, round) + behind);
      return fewest > MOST_JUDGES ? WRONG : fewest;
    }

    /** Of one sort it is best to bribe those with the least awards; sorts are tried together. */
    private int tryBribes(int pair, int toBeat) {
      int fewest = MOST_JUDGES + 1;
      int firsts = panel.countOfSort(pair);
      int seconds = panel.countOfSort(2);
      int thirds = panel.countOfSort(3);
      for (int a = 0; a <= firsts; a++) {
        for (int b = 0; b <= seconds; b++) {
          for (int c = 0; c <= thirds && a + b + c < fewest; c++) {
            bribe(a, b, c);
            if (panel.score() > toBeat) {
              fewest = a + b + c;
            }
          }
        }
      }
      return fewest;
    }

    private void bribe(int firsts, int seconds, int thirds) {
      for (int judge = 0; judge < meet.judges; judge++) {
        int sort = meet.judgeSort[judge];
        int bribed = sort < 2 ? firsts : sort == 2 ? seconds : thirds;
        panel.awards[judge] = places[judge] < bribed ? MOST_AWARD : marks[judge];
      }
    }

    private boolean isJudged(int entrant, int round, int judge) {
      return state.pointsOf(entrant, round) >= 0
          && !state.isFailed(entrant, round)
          && meet.isOnPanel(judge, entrant);
    }

    int biasOf(int judge, int what) {
      int count = 0;
      int above = 0;
      boolean isOwn = what < 2;
      for (int entrant = 0; entrant < meet.entrants; entrant++) {
        if ((meet.home[entrant] == meet.judgeLand[judge]) != isOwn) {
          continue;
        }
        for (int round = 1; round <= meet.rounds; round++) {
          if (isJudged(entrant, round, judge)) {
            panel.seat(state, entrant, round);
            count++;
            above += panel.awards[judge] - panel.middleOf(meet.judgeSort[judge]);
          }
        }
      }
      return what % 2 == 0 ? count : above;
    }

    int countAlike(int judge, int other) {
      int count = 0;
      for (int entrant = 0; entrant < meet.entrants; entrant++) {
        for (int round = 1; round <= meet.rounds; round++) {
          if (isJudged(entrant, round, judge) && isJudged(entrant, round, other)) {
            int from = State.slotOf(entrant, round) + State.AWARDS;
            count += state.slots[from + judge] == state.slots[from + other] ? 1 : 0;
          }
        }
      }
      return count;
    }

    int countPlaced(int judge, int what) {
      int count = 0;
      for (int entrant = 0; entrant < meet.entrants; entrant++) {
        for (int round = 1; round <= meet.rounds; round++) {
          if (isJudged(entrant, round, judge)) {
            panel.seat(state, entrant, round);
            panel.score();
            int bits = what == 0 ? panel.firstBits : what == 1 ? panel.lastBits : panel.keptBits;
            count += bits >> judge & 1;
          }
        }
      }
      return count;
    }

    /** The total without a judge (NONE: with all) and by another drop. */
    int totalAnew(int entrant, int judge, int drop) {
      int total = 0;
      for (int round = state.base[entrant] + 1; round <= meet.rounds; round++) {
        if (state.pointsOf(entrant, round) < 0 || state.isFailed(entrant, round)) {
          continue;
        }
        panel.seat(state, entrant, round);
        panel.drop = drop;
        if (judge != NONE) {
          panel.seated &= ~(1 << judge);
        }
        total += panel.score();
      }
      return total;
    }

    int totalByForm(int entrant, int lastRound) {
      int total = state.total[entrant];
      for (int round = 1; round <= lastRound; round++) {
        if (state.pointsOf(entrant, round) < 0) {
          total += meet.pointsByForm(entrant, state.list[cellOf(entrant, round)]);
        }
      }
      return total;
    }

    boolean wouldGoOn(int entrant, int cut) {
      for (int other = 0; other < meet.entrants; other++) {
        sums[other] = play.isIn(other) ? totalByForm(other, meet.cutRound[cut]) : NONE;
      }
      return play.isAmong(sums, entrant, meet.cutMost[cut]);
    }

    int countWins(int seed, int n, int entrant) {
      drawn = seed;
      int count = 0;
      for (int run = 0; run < n; run++) {
        trial.copyFrom(state);
        for (int dive = 0; dive < CELLS && trial.diver != NONE; dive++) {
          playDive();
        }
        count += trialPlay.rankOf(entrant) == 1 ? 1 : 0;
      }
      return count;
    }

    private void playDive() {
      int diver = trial.diver;
      trial.clearSlot(trial.boardSlot());
      int award = meet.awardByForm(diver, trial.list[cellOf(diver, trial.round)]);
      for (int judge = 0; judge < meet.judges; judge++) {
        if (meet.isOnPanel(judge, diver)) {
          int swayed = award + draw(5) - 2;
          trialPlay.doMark(judge, Math.max(0, Math.min(MOST_AWARD, swayed)));
        }
      }
      trialPlay.doGive();
    }

    private int draw(int m) {
      drawn = (drawn * 1103 + 12345) % 1000003;
      return drawn % m;
    }
  }
}
