import java.util.ArrayList;
import java.util.Arrays;
import java.util.HashSet;
import java.util.LinkedHashMap;
import java.util.List;
import java.util.Map;
import java.util.NoSuchElementException;
import java.util.Random;
import java.util.Set;

/**
 * Random runs of calls, each answered twice: by LowNumber and by a plain model that follows the
 * document word by word, over every row, with the Java library. The seeds are fixed.
 */
public final class LowNumberFuzz {
  static final long THROWS = Long.MIN_VALUE;
  static final String[] CALLS = {
    "draft", "fault", "where", "man", "spared", "many", "wouldGo", "takenBy", "goesBy", "sendsBy", "lossBy",
    "firstTaken", "taken", "goes", "goesFor", "loss", "club", "ruin", "toJoin", "shortOf", "ifMarried", "harm",
    "fills", "bestLaw", "toSpare", "rows", "could", "surely", "ask", "askLeaves", "surelyTaken", "believed",
    "wrong", "agent", "rests", "rest", "drafts", "sentIn", "lossIn", "marry", "spare", "hold", "desert", "fate",
    "lot", "seed", "undo", "image", "back", "led", "size"};
  static final String[] ACTS = {"marry", "spare", "hold", "hold", "desert", "seed", "undo", "image", "back", "spare"};
  static int wrong = 0;

  public static void main(String[] args) {
    int calls = 0;
    for (int run = 0; run < 1500 && wrong < 20; run++) {
      calls += oneRun(run);
    }
    System.out.println(calls + " random calls, " + wrong + " answers are not as due");
    if (wrong != 0) System.exit(1);
  }

  static int oneRun(int run) {
    Random r = new Random(run);
    LowNumber x = new LowNumber();
    Model y = new Model();
    List<String> log = new ArrayList<>();
    int calls = 0;
    boolean told = r.nextInt(20) > 0;
    while (calls < 500) {
      if (told || r.nextInt(60) == 0) {
        String text = text(r);
        told = false;
        int pieces = (text.length() + 19) / 20;
        for (int p = 0; p < pieces; p++) {
          int[] f = new int[5];
          for (int i = 0; i < 20; i++) {
            int at = p * 20 + i;
            int b = at < text.length() ? text.charAt(at) : ' ';
            f[i / 4] = f[i / 4] << 8 | b & 255;
          }
          if (!same(x, y, log, "feed", f[0], f[1], f[2], f[3], f[4])) return calls;
          calls++;
        }
        log.add("-- " + text);
        int n = r.nextInt(15) == 0 ? r.nextInt(900) - 20 : text.length();
        if (!same(x, y, log, "draft", n)) return calls;
        if (!same(x, y, log, "fault") || !same(x, y, log, "where")) return calls;
        calls += 3;
      }
      String call = r.nextInt(4) == 0 ? ACTS[r.nextInt(ACTS.length)] : CALLS[r.nextInt(CALLS.length)];
      if (call.equals("draft") && r.nextInt(8) > 0) continue;
      if (!same(x, y, log, call, arguments(r, call, y))) return calls;
      if (!same(x, y, log, "trouble")) return calls;
      calls += 2;
    }
    return calls;
  }

  static boolean same(LowNumber x, Model y, List<String> log, String call, int... a) {
    long want = y.call(call, a);
    long got = call(x, call, a);
    log.add(call + Arrays.toString(a) + " = " + got);
    if (got == want) return true;
    wrong++;
    for (String line : log) System.out.println("  " + line);
    System.out.println(call + Arrays.toString(a) + " answered " + got + ", due is " + want);
    return false;
  }

  static int near(Random r, int below) {
    int kind = r.nextInt(30);
    if (kind == 0) return -1;
    if (kind == 1) return below;
    if (kind == 2) return r.nextInt();
    return r.nextInt(Math.max(below, 1));
  }

  static int[] arguments(Random r, String call, Model y) {
    int men = y.text == null ? 3 : y.text.men.size();
    switch (call) {
      case "man": return new int[] {near(r, men), near(r, 6)};
      case "many": return new int[] {near(r, 4)};
      case "wouldGo": case "firstTaken": case "marry": case "desert": case "fate": case "lot": case "led":
        return new int[] {near(r, men)};
      case "takenBy": case "goesBy": return new int[] {row(r, men)};
      case "sendsBy": case "lossBy": return new int[] {row(r, men), near(r, men)};
      case "taken": case "goes": case "loss": case "ifMarried": return new int[] {near(r, men), r.nextInt(2)};
      case "goesFor": return new int[] {near(r, men), near(r, men), r.nextInt(2)};
      case "club": return new int[] {near(r, 1 << men), r.nextInt(2)};
      case "ruin": return new int[] {near(r, 1 << men), r.nextBoolean() ? r.nextInt(200) : near(r, 1000), r.nextInt(2)};
      case "toJoin": return new int[] {near(r, 1 << men)};
      case "harm": return new int[] {near(r, 16), r.nextInt(2)};
      case "fills": return new int[] {near(r, 16)};
      case "could": case "surely": return new int[] {near(r, y.text == null ? 1 : y.text.went.size())};
      case "believed": return new int[] {r.nextInt(2), r.nextInt(2)};
      case "agent": return new int[] {r.nextBoolean() ? r.nextInt(9) : near(r, 100), near(r, 10), near(r, 10), r.nextInt(2)};
      case "rests": case "rest": return new int[] {r.nextBoolean() ? r.nextInt(9) : near(r, 100)};
      case "drafts": case "sentIn": return new int[] {near(r, men), near(r, 65537), 1 + near(r, 90)};
      case "lossIn": return new int[] {near(r, 65537), 1 + near(r, 90)};
      case "spare": return new int[] {near(r, 4), r.nextInt(2)};
      case "seed": return new int[] {near(r, 65537)};
      case "back": return new int[] {near(r, 3)};
      case "size": return new int[] {near(r, 10)};
      case "shortOf": case "wrong": return new int[] {r.nextInt(2)};
      case "draft": return new int[] {near(r, 30)};
      default: return new int[0];
    }
  }

  static int row(Random r, int men) {
    if (r.nextInt(10) == 0) return near(r, 1000000);
    List<Integer> left = new ArrayList<>();
    for (int m = 0; m < men; m++) left.add(m);
    int number = 0;
    while (!left.isEmpty()) number = 10 * number + left.remove(r.nextInt(left.size()));
    return r.nextInt(20) == 0 ? number * 10 : number;
  }

  // ---- texts

  static String text(Random r) {
    StringBuilder s = new StringBuilder("draft takes " + r.nextInt(6));
    String[] sorts = {"plain", "married", "short", "lame"};
    String[] names = {"a", "b", "takes", "plain", "abcdefgh", "x"};
    int men = 1 + r.nextInt(6);
    if (r.nextInt(30) == 0) men = 7;
    boolean cheap = r.nextBoolean();
    for (int m = 0; m < men; m++) {
      s.append(";man ").append(m < 6 ? names[m] : "more").append(' ').append(sorts[r.nextInt(4) * r.nextInt(2)]);
      s.append(" worth ").append(r.nextInt(100)).append(" coins ").append(r.nextInt(201));
      s.append(" asks ").append(r.nextInt(cheap ? 25 : 100));
    }
    men = Math.min(men, 6);
    Set<String> done = new HashSet<>();
    for (int k = r.nextInt(r.nextInt(4) == 0 ? 8 : 3); k > 0; k--) {
      int a = r.nextInt(men);
      int b = r.nextInt(men);
      if (r.nextInt(40) > 0 && (a == b || !done.add(Math.min(a, b) + " " + Math.max(a, b)))) continue;
      s.append(";kin ").append(names[a]).append(' ').append(names[b]);
    }
    for (int sort = 0; sort < 4; sort++) {
      if (r.nextInt(6) == 0) s.append(";spares ").append(sorts[r.nextInt(30) == 0 ? r.nextInt(4) : sort]);
    }
    if (r.nextInt(3) > 0) {
      int[] hundred = {0, 100, r.nextInt(101), r.nextInt(101), r.nextInt(101)};
      s.append(";doctor hits ").append(hundred[r.nextInt(5)]).append(" errs ").append(hundred[r.nextInt(5)]);
      s.append(" share ").append(hundred[r.nextInt(5)]);
    }
    List<String> went = new ArrayList<>(Arrays.asList(names).subList(0, men));
    for (int k = r.nextInt(r.nextInt(20) == 0 ? 6 : 3); k > 0 && !went.isEmpty(); k--) {
      s.append(";went ").append(r.nextInt(40) == 0 ? names[r.nextInt(6)] : went.remove(r.nextInt(went.size())));
    }
    return r.nextInt(5) == 0 ? broken(r, s.toString()) : s.toString();
  }

  /** A text with a byte or a word changed, dropped or put in. */
  static String broken(Random r, String text) {
    String s = text;
    for (int k = 1 + r.nextInt(2); k > 0; k--) {
      int at = r.nextInt(s.length() + 1);
      String[] words = {"draft", "man", "kin", "spares", "doctor", "went", "lame", "worth", "a", "zz", "7", "300", "1000",
        ";", "abcdefghi", "  ", "" + (char) r.nextInt(256), "A", "takes", "draft takes 1", "doctor hits 1 errs 1 share 1",
        "spares lame", "kin a b", "went a"};
      String word = words[r.nextInt(words.length)];
      List<int[]> cuts = new ArrayList<>();
      for (int i = 0; i < s.length(); i++) if (s.charAt(i) == ' ' || s.charAt(i) == ';') cuts.add(new int[] {i});
      int kind = r.nextInt(5);
      if (kind == 0) s = s.substring(0, at) + word + s.substring(at);
      else if (kind == 1) s = s.substring(0, at);
      else if (kind == 2 && at < s.length()) s = s.substring(0, at) + s.substring(at + 1);
      else if (!cuts.isEmpty()) {
        int from = cuts.get(r.nextInt(cuts.size()))[0] + 1;
        int to = from;
        while (to < s.length() && s.charAt(to) != ' ' && s.charAt(to) != ';') to++;
        s = s.substring(0, from) + (kind == 3 ? word : " " + word + " ") + s.substring(kind == 3 ? to : from);
      }
      if (s.isEmpty()) return s;
    }
    return s.length() > 780 ? s.substring(0, 780) : s;
  }

  // ---- the class under test, by a call's name

  static long bool(boolean b) {
    return b ? 1 : 0;
  }

  static long call(LowNumber x, String call, int[] a) {
    boolean last = a.length > 0 && a[a.length - 1] == 1;
    switch (call) {
      case "feed": return x.feed(a[0], a[1], a[2], a[3], a[4]);
      case "draft": return x.draft(a[0]);
      case "fault": return x.fault();
      case "where": return x.where();
      case "man": return x.man(a[0], a[1]);
      case "spared": return x.spared();
      case "many": return x.many(a[0]);
      case "wouldGo": return x.wouldGo(a[0]);
      case "takenBy": return x.takenBy(a[0]);
      case "goesBy": return x.goesBy(a[0]);
      case "sendsBy": return x.sendsBy(a[0], a[1]);
      case "lossBy": return x.lossBy(a[0], a[1]);
      case "firstTaken": return x.firstTaken(a[0]);
      case "taken": return x.taken(a[0], last);
      case "goes": return x.goes(a[0], last);
      case "goesFor": return x.goesFor(a[0], a[1], last);
      case "loss": return x.loss(a[0], last);
      case "club": return x.club(a[0], last);
      case "ruin": return x.ruin(a[0], a[1], last);
      case "toJoin": return x.toJoin(a[0]);
      case "shortOf": return x.shortOf(last);
      case "ifMarried": return x.ifMarried(a[0], last);
      case "harm": return x.harm(a[0], last);
      case "fills": return x.fills(a[0]);
      case "bestLaw": return x.bestLaw();
      case "toSpare": return x.toSpare();
      case "rows": return x.rows();
      case "could": return x.could(a[0]);
      case "surely": return x.surely(a[0]);
      case "ask": return x.ask();
      case "askLeaves": return x.askLeaves();
      case "surelyTaken": return x.surelyTaken();
      case "believed": return x.believed(a[0] == 1, last);
      case "wrong": return x.wrong(last);
      case "agent": return x.agent(a[0], a[1], a[2], last);
      case "rests": return x.rests(a[0]);
      case "rest": return x.rest(a[0]);
      case "drafts": return x.drafts(a[0], a[1], a[2]);
      case "sentIn": return x.sentIn(a[0], a[1], a[2]);
      case "lossIn": return x.lossIn(a[0], a[1]);
      case "marry": return bool(x.marry(a[0]));
      case "spare": return bool(x.spare(a[0], last));
      case "hold": return x.hold();
      case "desert": return x.desert(a[0]);
      case "fate": return x.fate(a[0]);
      case "lot": return x.lot(a[0]);
      case "seed": return bool(x.seed(a[0]));
      case "undo": return bool(x.undo());
      case "image": return x.image();
      case "back": return bool(x.back(a[0]));
      case "led": try { return x.led(a[0]); } catch (NoSuchElementException e) { return THROWS; }
      case "size": return x.size(a[0]);
      case "trouble": return x.trouble();
      default: throw new IllegalArgumentException(call);
    }
  }

  // ---- the model

  record Man(String name, int sort, int worth, int coins, int asks) {}

  record Token(String s, int at) {
    boolean word() { return s.matches("[a-z]{1,8}"); }
    boolean whole() { return s.matches("[0-9]{1,3}"); }
  }

  static final class Fault extends Exception {
    static final long serialVersionUID = 1;
    final int number;
    final int place;
    Fault(int number, int place) { this.number = number; this.place = place; }
  }

  /** A draft's text, read token by token. */
  static final class Text {
    static final List<String> WORDS = List.of("draft", "man", "kin", "spares", "doctor", "went");
    static final List<String> SORTS = List.of("plain", "married", "short", "lame");
    int takes = -1;
    final List<Man> men = new ArrayList<>();
    final List<Set<Integer>> kin = new ArrayList<>();
    final Set<Integer> spares = new HashSet<>();
    int[] doctor;
    final List<Integer> went = new ArrayList<>();
    private final List<Token> tokens = new ArrayList<>();
    private int i = 0;

    Text(String s) throws Fault {
      java.util.regex.Matcher m = java.util.regex.Pattern.compile("[a-z]+|[0-9]+|[^ ]", java.util.regex.Pattern.DOTALL).matcher(s);
      while (m.find()) tokens.add(new Token(m.group(), m.start()));
      tokens.add(new Token("", s.length()));
      do line(); while (next(";"));
      if (!peek().s.isEmpty()) throw new Fault(1, peek().at);
      if (men.isEmpty()) throw new Fault(6, s.length());
    }

    Token peek() { return tokens.get(i); }

    boolean next(String s) {
      if (!peek().s.equals(s) || s.isEmpty()) return false;
      i++;
      return true;
    }

    void must(String s) throws Fault { if (!next(s)) throw new Fault(1, peek().at); }

    int whole(int most) throws Fault {
      Token t = peek();
      if (!t.whole()) throw new Fault(1, t.at);
      if (Integer.parseInt(t.s) > most) throw new Fault(4, t.at);
      i++;
      return Integer.parseInt(t.s);
    }

    String name() throws Fault {
      Token t = peek();
      if (!t.word() || WORDS.contains(t.s)) throw new Fault(1, t.at);
      return t.s;
    }

    int known(String name) {
      for (int m = 0; m < men.size(); m++) if (men.get(m).name.equals(name)) return m;
      return -1;
    }

    int man() throws Fault {
      int m = known(name());
      if (m < 0) throw new Fault(2, peek().at);
      return m;
    }

    int sort() throws Fault {
      int sort = SORTS.indexOf(peek().s);
      if (sort < 0) throw new Fault(1, peek().at);
      return sort;
    }

    void line() throws Fault {
      Token t = peek();
      if (!WORDS.contains(t.s)) throw new Fault(1, t.at);
      if (t.s.equals("draft") && takes >= 0 || t.s.equals("doctor") && doctor != null) throw new Fault(3, t.at);
      if (t.s.equals("man") && men.size() == 6 || t.s.equals("kin") && kin.size() == 6
          || t.s.equals("went") && went.size() == 3) throw new Fault(5, t.at);
      if (!t.s.equals("draft") && takes < 0) throw new Fault(6, t.at);
      i++;
      switch (t.s) {
        case "draft" -> { must("takes"); takes = whole(5); }
        case "man" -> {
          String name = name();
          if (known(name) >= 0) throw new Fault(3, peek().at);
          i++;
          int sort = sort();
          i++;
          must("worth");
          int worth = whole(99);
          must("coins");
          int coins = whole(200);
          must("asks");
          men.add(new Man(name, sort, worth, coins, whole(99)));
        }
        case "kin" -> {
          int a = man();
          i++;
          int b = man();
          if (a == b || kin.contains(Set.of(a, b))) throw new Fault(3, peek().at);
          i++;
          kin.add(Set.of(a, b));
        }
        case "spares" -> {
          if (!spares.add(sort())) throw new Fault(3, peek().at);
          i++;
        }
        case "doctor" -> {
          doctor = new int[3];
          must("hits");
          doctor[0] = whole(100);
          must("errs");
          doctor[1] = whole(100);
          must("share");
          doctor[2] = whole(100);
        }
        default -> {
          int m = man();
          if (went.contains(m)) throw new Fault(3, peek().at);
          i++;
          went.add(m);
        }
      }
    }
  }

  /** All that acts change. */
  static final class State {
    int[] sorts;
    int[] coins;
    Set<Integer> spares;
    long seed;
    int held;
    List<Integer> row;
    Outcome latest;

    State copy() {
      State s = new State();
      s.sorts = sorts.clone();
      s.coins = coins.clone();
      s.spares = new HashSet<>(spares);
      s.seed = seed;
      s.held = held;
      s.row = row;
      s.latest = latest;
      return s;
    }
  }

  /** Who is taken by a row, in its order, and whom those send. */
  record Outcome(List<Integer> taken, Map<Integer, Integer> sends) {
    int takenBits() { int b = 0; for (int m : taken) b |= 1 << m; return b; }
    int goes() { int b = 0; for (int m : taken) b |= 1 << sends.getOrDefault(m, m); return b; }
    int sender(int m) { for (int t : taken) if (sends.getOrDefault(t, -1) == m) return t; return -1; }
  }

  static final class Refused extends Exception {
    static final long serialVersionUID = 1;
    final int why;
    Refused(int why) { this.why = why; }
  }

  static final class Model {
    final StringBuilder tape = new StringBuilder();
    Text text;
    State now;
    List<State> acts = new ArrayList<>();
    List<State> images = new ArrayList<>();
    int trouble = 0;
    int fault = 0;
    int place = 0;
    private List<Outcome> all;

    static final Set<String> CHANGES = Set.of("draft", "marry", "spare", "hold", "undo", "back");

    long call(String call, int... a) {
      switch (call) {
        case "feed":
          if (tape.length() + 20 > 800) return -1;
          for (int v : a) for (int s = 24; s >= 0; s -= 8) tape.append((char) (v >>> s & 255));
          return tape.length();
        case "fault": return fault;
        case "where": return trouble == 4 ? place : -1;
        case "trouble": return trouble;
        case "led": {
          int at = -1;
          for (int m = 0; text != null && now.held > 0 && m < text.men.size(); m++)
            if ((now.latest.goes() >> m & 1) == 1 && ++at == a[0]) return m;
          return THROWS;
        }
        case "size": {
          if (a[0] < 0 || a[0] > 9) return -1;
          if (a[0] == 9) return tape.length();
          if (text == null) return 0;
          return new long[] {text.takes, text.men.size(), text.kin.size(), text.doctor == null ? 0 : 1, text.went.size(),
            now.held, now.seed, acts.size(), images.size()}[a[0]];
        }
        default:
      }
      if (CHANGES.contains(call)) all = null;
      try {
        long answer = answer(call, a);
        trouble = 0;
        return answer;
      } catch (Refused e) {
        trouble = e.why;
        if (call.equals("agent")) return -100;
        return Set.of("marry", "spare", "seed", "undo", "back").contains(call) ? 0 : -1;
      }
    }

    void drafted() throws Refused { if (text == null) throw new Refused(1); }

    void man(int m) throws Refused { if (text == null || m < 0 || m >= text.men.size()) throw new Refused(1); }

    static void number(int v, int from, int to) throws Refused { if (v < from || v > to) throw new Refused(2); }

    Outcome outcome(List<Integer> row, int[] sorts, Set<Integer> law) {
      Outcome o = new Outcome(new ArrayList<>(), new LinkedHashMap<>());
      for (int m : row) {
        boolean spared = law.contains(sorts[m]);
        for (int t : o.taken) if (text.kin.contains(Set.of(t, m))) spared = true;
        if (!spared && o.taken.size() < text.takes) o.taken.add(m);
      }
      for (int t : o.taken) {
        int best = -1;
        for (int m = 0; m < text.men.size(); m++) {
          int asks = text.men.get(m).asks;
          if (o.taken.contains(m) || sorts[m] == 3 || o.sends.containsValue(m)) continue;
          if (asks > now.coins[t] || asks >= text.men.get(t).worth) continue;
          if (best < 0 || asks < text.men.get(best).asks) best = m;
        }
        if (best >= 0) o.sends.put(t, best);
      }
      return o;
    }

    int loss(Outcome o, int m) {
      if (!o.taken.contains(m)) return 0;
      return o.sends.containsKey(m) ? text.men.get(o.sends.get(m)).asks : text.men.get(m).worth;
    }

    int clubLoss(Outcome o, int men) {
      int sum = 0;
      for (int m = 0; m < text.men.size(); m++) if ((men >> m & 1) == 1) sum += loss(o, m);
      return sum;
    }

    List<List<Integer>> everyRow() {
      List<List<Integer>> rows = new ArrayList<>();
      rows(rows, new ArrayList<>());
      return rows;
    }

    private void rows(List<List<Integer>> rows, List<Integer> begun) {
      if (begun.size() == text.men.size()) rows.add(new ArrayList<>(begun));
      for (int m = 0; m < text.men.size(); m++) {
        if (begun.contains(m)) continue;
        begun.add(m);
        rows(rows, begun);
        begun.remove(begun.size() - 1);
      }
    }

    List<Outcome> outcomes(int[] sorts, Set<Integer> law) {
      List<Outcome> list = new ArrayList<>();
      for (List<Integer> row : everyRow()) list.add(outcome(row, sorts, law));
      return list;
    }

    List<Outcome> all() {
      if (all == null) all = outcomes(now.sorts, now.spares);
      return all;
    }

    Outcome byNumber(int row) throws Refused {
      drafted();
      for (List<Integer> r : everyRow()) if (numberOf(r) == row) return outcome(r, now.sorts, now.spares);
      throw new Refused(2);
    }

    static int numberOf(List<Integer> row) {
      int n = 0;
      for (int m : row) n = 10 * n + m;
      return n;
    }

    static long part(long upper, long under, int lower) {
      if (upper == 0 || under == 0) return lower;
      long g = java.math.BigInteger.valueOf(upper).gcd(java.math.BigInteger.valueOf(under)).longValue();
      return (lower == 1 ? under : upper) / g;
    }

    static Set<Integer> law(int bits) {
      Set<Integer> s = new HashSet<>();
      for (int i = 0; i < 4; i++) if ((bits >> i & 1) == 1) s.add(i);
      return s;
    }

    static int bits(Set<Integer> s) {
      int b = 0;
      for (int i : s) b |= 1 << i;
      return b;
    }

    long harm(int law) {
      long sum = 0;
      for (Outcome o : outcomes(now.sorts, law(law))) sum += clubLoss(o, 63);
      return sum;
    }

    boolean fills(int law) {
      for (Outcome o : outcomes(now.sorts, law(law))) if (o.taken.size() < text.takes) return false;
      return true;
    }

    List<Outcome> fitting() {
      List<Outcome> fit = new ArrayList<>();
      for (Outcome o : all()) if (o.sends.values().containsAll(text.went)) fit.add(o);
      return fit;
    }

    int[] ask() {
      int best = -2;
      int leaves = -2;
      List<Outcome> fit = fitting();
      for (int k = 0; k < text.went.size() && !fit.isEmpty(); k++) {
        int[] left = new int[6];
        for (Outcome o : fit) left[o.sender(text.went.get(k))]++;
        int most = Arrays.stream(left).max().getAsInt();
        if (best < 0 || most < leaves) {
          best = k;
          leaves = most;
        }
      }
      return new int[] {best, leaves};
    }

    static int gain(int many, int one, int other) {
      int sold;
      if (one < other) sold = Math.min(3, many);
      else if (one > other) sold = Math.min(3, many - Math.min(3, many));
      else sold = Math.min(3, many / 2);
      return sold * one - sold;
    }

    static List<Integer> restsOf(int many) {
      List<Integer> list = new ArrayList<>();
      for (int p = 0; p < 10; p++) {
        for (int q = 0; q < 10; q++) {
          boolean rest = true;
          for (int r = 0; r < 10; r++) if (gain(many, r, q) > gain(many, p, q) || gain(many, r, p) > gain(many, q, p)) rest = false;
          if (rest) list.add(10 * p + q);
        }
      }
      return list;
    }

    List<Integer> drawn(long[] seed) {
      List<Integer> row = new ArrayList<>();
      for (int m = 0; m < text.men.size(); m++) row.add(m);
      for (int i = row.size(); i >= 2; i--) {
        seed[0] = (75 * seed[0] + 74) % 65537;
        java.util.Collections.swap(row, (int) (seed[0] % i), i - 1);
      }
      return row;
    }

    List<Outcome> draws(int seed, int n) throws Refused {
      number(seed, 0, 65536);
      number(n, 1, 90);
      List<Outcome> list = new ArrayList<>();
      long[] going = {seed};
      for (int i = 0; i < n; i++) list.add(outcome(drawn(going), now.sorts, now.spares));
      return list;
    }

    void act() {
      acts.add(now.copy());
      if (acts.size() > 16) acts.remove(0);
    }

    long count(java.util.function.Predicate<Outcome> p) { return all().stream().filter(p).count(); }

    long answer(String call, int[] a) throws Refused {
      switch (call) {
        case "draft": return draft(a[0]);
        case "undo":
          if (acts.isEmpty()) throw new Refused(6);
          now = acts.remove(acts.size() - 1);
          return 1;
        case "back":
          if (a[0] < 0 || a[0] >= images.size()) throw new Refused(1);
          now = images.get(a[0]).copy();
          acts.clear();
          return 1;
        default:
          drafted();
      }
      int all = 1;
      for (int i = 2; i <= text.men.size(); i++) all *= i;
      int everyone = (1 << text.men.size()) - 1;
      switch (call) {
        case "man":
          man(a[0]);
          if (a[1] < 0 || a[1] > 5) throw new Refused(1);
          Man who = text.men.get(a[0]);
          int kin = 0;
          for (int m = 0; m < text.men.size(); m++) if (m != a[0] && text.kin.contains(Set.of(m, a[0]))) kin |= 1 << m;
          return new int[] {now.sorts[a[0]], who.worth, now.coins[a[0]], who.asks, kin, now.spares.contains(now.sorts[a[0]]) ? 1 : 0}[a[1]];
        case "spared": return bits(now.spares);
        case "many":
          number(a[0], 0, 3);
          return Arrays.stream(now.sorts).filter(s -> s == a[0]).count();
        case "wouldGo": {
          man(a[0]);
          int best = -2;
          for (int m = 0; m < text.men.size(); m++) {
            int asks = text.men.get(m).asks;
            if (m == a[0] || now.sorts[m] == 3 || asks > now.coins[a[0]] || asks >= text.men.get(a[0]).worth) continue;
            if (best < 0 || asks < text.men.get(best).asks) best = m;
          }
          return best;
        }
        case "takenBy": return byNumber(a[0]).takenBits();
        case "goesBy": return byNumber(a[0]).goes();
        case "sendsBy": man(a[1]); return byNumber(a[0]).sends.getOrDefault(a[1], -2);
        case "lossBy": man(a[1]); return loss(byNumber(a[0]), a[1]);
        case "firstTaken":
          man(a[0]);
          for (List<Integer> r : everyRow()) if (outcome(r, now.sorts, now.spares).taken.contains(a[0])) return numberOf(r);
          return -2;
        case "taken": man(a[0]); return part(count(o -> o.taken.contains(a[0])), all, a[1]);
        case "goes": man(a[0]); return part(count(o -> (o.goes() >> a[0] & 1) == 1), all, a[1]);
        case "goesFor":
          man(a[0]);
          man(a[1]);
          if (a[0] == a[1]) throw new Refused(1);
          return part(count(o -> o.sends.getOrDefault(a[1], -1) == a[0]), all, a[2]);
        case "loss": man(a[0]); return part(all().stream().mapToLong(o -> loss(o, a[0])).sum(), all, a[1]);
        case "club":
          if (a[0] < 1 || a[0] > everyone) throw new Refused(1);
          return part(all().stream().mapToLong(o -> clubLoss(o, a[0])).sum(), (long) all * Integer.bitCount(a[0]), a[1]);
        case "ruin":
          if (a[0] < 1 || a[0] > everyone) throw new Refused(1);
          number(a[1], 0, 999);
          return part(count(o -> clubLoss(o, a[0]) > a[1]), all, a[2]);
        case "toJoin": {
          if (a[0] < 0 || a[0] > everyone) throw new Refused(1);
          int best = -2;
          double least = 0;
          for (int m = 0; m < text.men.size(); m++) {
            if ((a[0] >> m & 1) == 1) continue;
            int club = a[0] | 1 << m;
            double each = (double) all().stream().mapToLong(o -> clubLoss(o, club)).sum() / Integer.bitCount(club);
            if (best < 0 || each < least) {
              best = m;
              least = each;
            }
          }
          return best;
        }
        case "shortOf": return part(count(o -> o.taken.size() < text.takes), all, a[0]);
        case "ifMarried": {
          man(a[0]);
          int[] sorts = now.sorts.clone();
          sorts[a[0]] = 1;
          return part(outcomes(sorts, now.spares).stream().mapToLong(o -> loss(o, a[0])).sum(), all, a[1]);
        }
        case "harm": number(a[0], 0, 15); return part(harm(a[0]), all, a[1]);
        case "fills": number(a[0], 0, 15); return fills(a[0]) ? 1 : 0;
        case "bestLaw": {
          int best = -2;
          long least = 0;
          for (int law = 0; law < 16; law++) {
            if (!fills(law)) continue;
            long harm = harm(law);
            if (best < 0 || harm < least) {
              best = law;
              least = harm;
            }
          }
          return best;
        }
        case "toSpare": {
          int best = -2;
          long least = 0;
          for (int sort = 0; sort < 4; sort++) {
            if (now.spares.contains(sort)) continue;
            long harm = harm(bits(now.spares) | 1 << sort);
            if (best < 0 || harm < least) {
              best = sort;
              least = harm;
            }
          }
          return best;
        }
        case "rows": return fitting().size();
        case "could": case "surely": {
          if (a[0] < 0 || a[0] >= text.went.size()) throw new Refused(1);
          Set<Integer> senders = new HashSet<>();
          for (Outcome o : fitting()) senders.add(o.sender(text.went.get(a[0])));
          if (call.equals("could")) return bits(senders);
          return senders.size() == 1 ? senders.iterator().next() : -2;
        }
        case "ask": return ask()[0];
        case "askLeaves": return ask()[1];
        case "surelyTaken": {
          if (fitting().isEmpty()) return 0;
          int b = everyone;
          for (Outcome o : fitting()) b &= o.takenBits();
          return b;
        }
        case "believed": case "wrong": {
          if (text.doctor == null) throw new Refused(6);
          long share = text.doctor[2];
          long lameSo = share * text.doctor[0];
          long otherSo = (100 - share) * text.doctor[1];
          long lameNot = share * 100 - lameSo;
          long otherNot = (100 - share) * 100 - otherSo;
          if (call.equals("wrong")) return part(lameNot + otherSo, 10000, a[0]);
          return a[0] == 1 ? part(lameSo, lameSo + otherSo, a[1]) : part(lameNot, lameNot + otherNot, a[1]);
        }
        case "agent":
          number(a[0], 0, 99);
          number(a[1], 0, 9);
          number(a[2], 0, 9);
          return a[3] == 1 ? gain(a[0], a[2], a[1]) : gain(a[0], a[1], a[2]);
        case "rests": number(a[0], 0, 99); return restsOf(a[0]).size();
        case "rest": number(a[0], 0, 99); return restsOf(a[0]).isEmpty() ? -2 : restsOf(a[0]).get(0);
        case "drafts": man(a[0]); return draws(a[1], a[2]).stream().filter(o -> o.taken.contains(a[0])).count();
        case "sentIn": man(a[0]); return draws(a[1], a[2]).stream().filter(o -> o.sends.containsValue(a[0])).count();
        case "lossIn": return draws(a[0], a[1]).stream().mapToLong(o -> clubLoss(o, 63)).sum();
        case "marry":
          man(a[0]);
          if (now.sorts[a[0]] == 1) throw new Refused(5);
          act();
          now.sorts[a[0]] = 1;
          return 1;
        case "spare":
          number(a[0], 0, 3);
          if (now.spares.contains(a[0]) == (a[1] == 1)) throw new Refused(5);
          act();
          if (a[1] == 1) now.spares.add(a[0]);
          else now.spares.remove(a[0]);
          return 1;
        case "hold": {
          act();
          long[] going = {now.seed};
          now.row = drawn(going);
          now.seed = going[0];
          now.held++;
          now.latest = outcome(now.row, now.sorts, now.spares);
          for (Map.Entry<Integer, Integer> e : now.latest.sends.entrySet()) now.coins[e.getKey()] -= text.men.get(e.getValue()).asks;
          return now.latest.goes();
        }
        case "desert": {
          man(a[0]);
          int sender = now.held == 0 ? -1 : now.latest.sender(a[0]);
          if (sender < 0) throw new Refused(5);
          act();
          Map<Integer, Integer> sends = new LinkedHashMap<>(now.latest.sends);
          sends.remove(sender);
          now.latest = new Outcome(now.latest.taken, sends);
          return sender;
        }
        case "fate":
          man(a[0]);
          if (now.held == 0) return 0;
          if (now.latest.taken.contains(a[0])) return now.latest.sends.containsKey(a[0]) ? 2 : 1;
          return now.latest.sender(a[0]) >= 0 ? 3 : 0;
        case "lot":
          man(a[0]);
          if (now.held == 0) throw new Refused(1);
          return now.row.get(a[0]);
        case "seed": number(a[0], 0, 65536); now.seed = a[0]; return 1;
        case "image":
          if (images.size() == 3) throw new Refused(3);
          images.add(now.copy());
          return images.size() - 1;
        default: throw new IllegalArgumentException(call);
      }
    }

    long draft(int n) throws Refused {
      if (n < 0 || n > tape.length()) throw new Refused(2);
      String s = tape.substring(0, n);
      tape.setLength(0);
      try {
        text = new Text(s);
      } catch (Fault f) {
        fault = f.number;
        place = f.place;
        throw new Refused(4);
      }
      fault = 0;
      now = new State();
      now.sorts = text.men.stream().mapToInt(Man::sort).toArray();
      now.coins = text.men.stream().mapToInt(Man::coins).toArray();
      now.spares = new HashSet<>(text.spares);
      acts.clear();
      images.clear();
      return text.men.size();
    }
  }
}
