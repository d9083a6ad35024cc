import java.lang.annotation.Retention;
import java.lang.annotation.RetentionPolicy;
import java.lang.reflect.Method;
import java.nio.file.Files;
import java.nio.file.Path;
import java.util.ArrayList;
import java.util.Arrays;
import java.util.Comparator;
import java.util.List;
import java.util.NoSuchElementException;
import java.util.Set;
import java.util.TreeSet;
import java.util.function.BooleanSupplier;
import java.util.function.IntToLongFunction;
import java.util.function.LongSupplier;
import java.util.regex.Matcher;
import java.util.regex.Pattern;

/**
 * Each sentence of the document that names a boundary case has a test of its own here, with the promise's
 * number and the sentence's words beside it. The words are looked up in ../shared/DOC.md, and each refusal
 * that a promise numbers there must have been met in a test of that promise.
 */
public final class LowNumberEdges {
  @Retention(RetentionPolicy.RUNTIME)
  @interface Edge {
    int promise();

    String says();
  }

  private static final int LEAST = Integer.MIN_VALUE;
  private static final int MOST = Integer.MAX_VALUE;
  private static final int PROMISES = 54;
  /** By this seed the first draw is 0: of two men the second is first. */
  private static final int TO_ZERO = 45438;
  /** By this seed the first draw is 1: two men stay by their numbers. */
  private static final int TO_ONE = 25340;

  private static int wrong = 0;
  private static int asked = 0;
  private static String test = "";
  private static int promise = 0;
  /** Refusals that were met, as "promise number". */
  private static final Set<String> met = new TreeSet<>();

  public static void main(String[] args) throws Exception {
    Set<Integer> tested = new TreeSet<>();
    String document = Files.readString(Path.of("../shared/DOC.md")).replaceAll("\\s+", " ");
    int tests = 0;
    for (Method m : inOrder()) {
      Edge edge = m.getAnnotation(Edge.class);
      promise = edge.promise();
      test = m.getName();
      tested.add(promise);
      is("the document says '" + edge.says() + "'", document.contains(edge.says()), true);
      m.invoke(null);
      tests++;
    }
    test = "the tests";
    for (int p = 1; p <= PROMISES; p++) is("promise " + p + " has a test", tested.contains(p), true);
    Set<String> refusals = numbered(document);
    is("there are refusals", refusals.size() > PROMISES, true);
    for (String refusal : refusals) is("the refusal (promise, number) " + refusal + " is met", met.contains(refusal), true);
    System.out.println(tests + " sentences, " + asked + " answers, " + wrong + " are not as due");
    if (wrong != 0) System.exit(1);
  }

  private static List<Method> inOrder() {
    List<Method> list = new ArrayList<>();
    for (Method m : LowNumberEdges.class.getDeclaredMethods()) if (m.isAnnotationPresent(Edge.class)) list.add(m);
    list.sort(Comparator.comparing((Method m) -> m.getAnnotation(Edge.class).promise()).thenComparing(Method::getName));
    return list;
  }

  /** All refusals that the document numbers, as "promise number". */
  private static Set<String> numbered(String document) {
    Set<String> all = new TreeSet<>();
    Set<String> before = new TreeSet<>();
    Matcher promises = Pattern.compile("## Promise (\\d+): (.*?)(?=## )").matcher(document);
    while (promises.find()) {
      Set<String> numbers = new TreeSet<>();
      Matcher told = Pattern.compile("(NONE|-1|-100|false): ((?:likewise|\\d|; |\\([^)]*\\)| )+)").matcher(promises.group(2));
      while (told.find()) {
        if (told.group(2).contains("likewise")) numbers.addAll(before);
        Matcher digits = Pattern.compile("\\d").matcher(told.group(2).replaceAll("\\([^)]*\\)", ""));
        while (digits.find()) numbers.add(digits.group());
      }
      for (String n : numbers) all.add(promises.group(1) + " " + n);
      before = numbers;
    }
    return all;
  }

  // ---- what the tests share

  private static void is(String call, long got, long want) {
    asked++;
    if (got != want) {
      wrong++;
      System.out.println("promise " + promise + ", " + test + ": " + call + " answered " + got + ", due is " + want);
    }
  }

  /** What follows in a test that goes through several promises is of this one. */
  private static void of(int number) {
    promise = number;
  }

  private static void is(String call, boolean got, boolean want) {
    is(call, got ? 1 : 0, want ? 1 : 0);
  }

  private static void part(String call, long upper, long lower, long wantUpper, long wantLower) {
    is(call + " upper", upper, wantUpper);
    is(call + " lower", lower, wantLower);
  }

  /** A call must be refused by a number, and leave all as it was. */
  private static void refused(LowNumber x, int why, LongSupplier call) {
    refused(x, why, -1, call);
  }

  private static void denied(LowNumber x, int why, BooleanSupplier call) {
    refused(x, why, 0, () -> call.getAsBoolean() ? 1 : 0);
  }

  private static void refused(LowNumber x, int why, long answer, LongSupplier call) {
    String before = sizes(x);
    is("a call to refuse by " + why, call.getAsLong(), answer);
    is("trouble()", x.trouble(), why);
    is("sizes stay: " + before, sizes(x).equals(before), true);
    met.add(promise + " " + why);
  }

  /** Numbers of men (or of those told, images, kinds of answers) of which there are so many. */
  private static void refusedOutside(LowNumber x, int many, int why, IntToLongFunction call) {
    for (int v : new int[] {-1, many, many + 1, -many, 32, 64, 256, 65536 * 4, LEAST, MOST}) {
      if (v < 0 || v >= many) refused(x, why, () -> call.applyAsLong(v));
    }
  }

  private static void fine(LowNumber x) {
    is("trouble()", x.trouble(), 0);
  }

  private static String sizes(LowNumber x) {
    StringBuilder s = new StringBuilder();
    for (int what = 0; what <= 8; what++) s.append(x.size(what)).append(' ');
    return s.toString();
  }

  private static boolean ledThrows(LowNumber x, int i) {
    try {
      x.led(i);
      return false;
    } catch (NoSuchElementException e) {
      return true;
    }
  }

  private static int four(CharSequence s, int at) {
    return s.charAt(at) << 24 | s.charAt(at + 1) << 16 | s.charAt(at + 2) << 8 | s.charAt(at + 3);
  }

  private static void feedText(LowNumber x, String text) {
    StringBuilder s = new StringBuilder(text);
    while (s.length() % 20 != 0) s.append(' ');
    for (int i = 0; i < s.length(); i += 20) x.feed(four(s, i), four(s, i + 4), four(s, i + 8), four(s, i + 12), four(s, i + 16));
  }

  private static int read(LowNumber x, String text) {
    feedText(x, text);
    return x.draft(text.length());
  }

  /** A draft's text; of a line of five words the sort is the second: he is a man with worth, coins, asks. */
  private static String text(int takes, String... lines) {
    StringBuilder s = new StringBuilder("draft takes ").append(takes);
    for (String line : lines) {
      String[] w = line.split(" ");
      s.append(';').append(w.length == 5
          ? "man " + w[0] + " " + w[1] + " worth " + w[2] + " coins " + w[3] + " asks " + w[4] : line);
    }
    return s.toString();
  }

  private static LowNumber told(int takes, String... lines) {
    LowNumber x = new LowNumber();
    is("a good text", read(x, text(takes, lines)) > 0, true);
    return x;
  }

  private static void good(String text, int men) {
    LowNumber x = new LowNumber();
    is("draft of '" + text + "'", read(x, text), men);
    fine(x);
    is("fault of '" + text + "'", x.fault(), 0);
  }

  private static void fault(int number, int place, String text) {
    LowNumber x = new LowNumber();
    refused(x, 4, () -> read(x, text));
    is("fault of '" + text + "'", x.fault(), number);
    is("where of '" + text + "'", x.where(), place);
  }

  /** b goes for a or c, since c is lame; b can't pay a. By a row's first: a loses 2, b 8, c 2. */
  private static final String[] THREE = {"a plain 10 9 3", "b plain 8 2 2", "c lame 7 7 0"};
  private static final String ONE = "draft takes 1;man a plain worth 5 coins 5 asks 5";

  private static LowNumber three() {
    return told(1, THREE);
  }

  /** Six men who can't pay anybody, of worth 1 to 6. */
  private static LowNumber six(int takes) {
    return told(takes, sixLines());
  }

  private static String[] sixLines(String... more) {
    List<String> lines = new ArrayList<>();
    for (char c = 'a'; c <= 'f'; c++) lines.add(c + " plain " + (c - 'a' + 1) + " 0 9");
    lines.addAll(Arrays.asList(more));
    return lines.toArray(new String[0]);
  }

  // ---- promise 1

  @Edge(promise = 1, says = "`LowNumber()`: No DRAFT.")
  static void aNewObjectHasNothing() {
    LowNumber x = new LowNumber();
    fine(x);
    is("fault()", x.fault(), 0);
    is("where()", x.where(), -1);
    for (int what = 0; what <= 9; what++) is("size(" + what + ")", x.size(what), 0);
    refused(x, 1, x::spared);
    is("where()", x.where(), -1);
    is("led(0) throws", ledThrows(x, 0), true);
  }

  // ---- promise 2: feed

  @Edge(promise = 2, says = "NONE, and none comes, if there would be more than 800.")
  static void theTapeIsFull() {
    LowNumber x = new LowNumber();
    String end = "draft takes 0;man a plain worth 9 coins 9 asks 9;went a";
    StringBuilder s = new StringBuilder();
    while (s.length() < 800 - end.length()) s.append(' ');
    s.append(end);
    for (int i = 0; i < 800; i += 20) {
      is("feed", x.feed(four(s, i), four(s, i + 4), four(s, i + 8), four(s, i + 12), four(s, i + 16)), i + 20);
    }
    for (int i = 0; i < 3; i++) is("feed beyond 800", x.feed(0, 0, 0, 0, 0), -1);
    is("size(9)", x.size(9), 800);
    refused(x, 2, () -> x.draft(801));
    is("all 800 are read, none beyond", x.draft(800), 1);
    is("the very last byte too", x.size(4), 1);
    is("there is room again", x.feed(0, 0, 0, 0, 0), 20);
  }

  @Edge(promise = 2, says = "Twenty bytes come behind THE TAPE, of each number the highest first: how many it has")
  static void theHighestByteIsFirst() {
    LowNumber x = new LowNumber();
    is("feed", x.feed(0x64726166, 0x74207461, 0x6b657320, 0x313b6d61, 0x6e206120), 20);
    is("feed", x.feed(0x706c6169, 0x6e20776f, 0x72746820, 0x3520636f, 0x696e7320), 40);
    is("feed", x.feed(0x35206173, 0x6b732035, 0x80ff7f00, 0xffffffff, 0x80000000), 60);
    is("draft", x.draft(48), 1);
    x.feed(0x20202080, 0, 0, 0, 0);
    is("a byte of 128", x.draft(4), -1);
    is("where()", x.where(), 3);
    x.feed(0xff202020, 0, 0, 0, 0);
    is("a byte of 255", x.draft(4), -1);
    is("where()", x.where(), 0);
  }

  // ---- promise 3: the text

  @Edge(promise = 3, says = "blanks, 32, part TOKENS and mean nothing else")
  static void blanksOrNone() {
    good("   draft  takes   1  ;  man a plain worth 5 coins 5 asks 5   ", 1);
    good("draft takes1;man a plain worth5coins5asks5", 1);
    fault(1, 0, "dra ft takes 1");
    fault(1, 14, "draft takes 1 2;man a");
    fault(4, 12, "draft takes 12;man a");
    fault(1, 0, "drafttakes 1");
    fault(1, 5, "draft\ttakes 1");
    fault(1, 5, "draft\ntakes 1");
  }

  @Edge(promise = 3, says = "WORDS of 1 to 8 small letters that stand together")
  static void wordsOfOneToEight() {
    good("draft takes 1;man z plain worth 5 coins 5 asks 5", 1);
    good("draft takes 1;man abcdefgh plain worth 5 coins 5 asks 5", 1);
    fault(1, 18, "draft takes 1;man abcdefghi plain worth 5 coins 5 asks 5");
    fault(1, 18, "draft takes 1;man abcdefghabcdefgh plain worth 5 coins 5 asks 5");
    good(text(1, "abcdefgh plain 5 5 5", "abcdefgi plain 5 5 5", "a plain 5 5 5", "ab plain 5 5 5", "aa plain 5 5 5", "kin a ab"), 5);
    is("a name that begins like another", told(1, "ab plain 5 5 5", "a plain 5 5 5", "c plain 5 5 5", "kin a c").man(1, 4), 4);
  }

  @Edge(promise = 3, says = "WHOLES of 1 to 3 digits that do")
  static void wholesOfOneToThree() {
    for (String five : new String[] {"5", "05", "005"}) is("takes " + five, sizeOfTakes(five), 5);
    is("takes 000", sizeOfTakes("000"), 0);
    fault(1, 12, "draft takes 0005;man a");
    fault(1, 12, "draft takes 0000;man a");
    fault(1, 12, "draft takes 1000;man a");
    fault(4, 12, "draft takes 999;man a");
    fault(1, 40, "draft takes 1;man a plain worth 5 coins 0200 asks 9");
  }

  private static int sizeOfTakes(String whole) {
    LowNumber x = new LowNumber();
    read(x, "draft takes " + whole + ";man a plain worth 5 coins 5 asks 5");
    return x.size(0);
  }

  @Edge(promise = 3, says = "single ones of ;): LINE {; LINE}.")
  static void noLineIsEmpty() {
    fault(1, 0, "");
    fault(1, 3, "   ");
    fault(1, 0, ";" + ONE);
    fault(1, 14, "draft takes 1;;man a plain worth 5 coins 5 asks 5");
    fault(1, 15, "draft takes 1; ;man a plain worth 5 coins 5 asks 5");
    fault(1, 14, "draft takes 1 man a plain worth 5 coins 5 asks 5");
    fault(1, 13, "draft takes 1man a plain worth 5 coins 5 asks 5");
    fault(1, ONE.length() + 1, ONE + ";");
    fault(1, ONE.length() + 2, ONE + " ;");
    fault(1, ONE.length() + 3, ONE + ";  ");
  }

  @Edge(promise = 3, says = "1 FORM: the first byte that begins no TOKEN, or TOKEN with which no DRAFT goes on (the end: its place).")
  static void everyByteWhereANameStands() {
    for (int b = 0; b < 256; b++) {
      String s = "draft takes 1;man " + (char) b + " plain worth 5 coins 5 asks 5";
      if (b >= 'a' && b <= 'z') good(s, 1);
      else fault(1, b == ' ' ? 26 : 18, s);
    }
  }

  @Edge(promise = 3, says = "the first byte that begins no TOKEN")
  static void everyByteWhereAWholeStands() {
    for (int b = 0; b < 256; b++) {
      String s = "draft takes " + (char) b + ";man a plain worth 5 coins 5 asks 5";
      if (b >= '0' && b <= '5') good(s, 1);
      else if (b >= '6' && b <= '9') fault(4, 12, s);
      else fault(1, b == ' ' ? 13 : 12, s);
    }
  }

  @Edge(promise = 3, says = "or TOKEN with which no DRAFT goes on")
  static void everyByteBehindALine() {
    for (int b = 0; b < 256; b++) {
      String s = ONE + ' ' + (char) b;
      if (b == ' ') good(s, 1);
      else fault(1, b == ';' ? ONE.length() + 2 : ONE.length() + 1, s);
    }
    fault(1, 0, "x");
    fault(1, 0, "7");
    fault(1, 6, "draft take 1");
    fault(1, 6, "draft takesa 1");
    fault(1, 6, "draft wakes 1");
    fault(1, 6, "draft taxes 1");
    fault(1, 0, "craft takes 1");
    for (String word : new String[] {"mat", "pan", "fin", "kit", "shares", "spared", "proctor", "doctors", "bent", "wend"}) {
      fault(1, ONE.length() + 1, ONE + ";" + word + " a");
    }
    fault(1, ONE.length() + 8, ONE + ";spares fame");
    fault(1, 20, "draft takes 1;man a tall worth 5");
    fault(1, 20, "draft takes 1;man a worth 5");
    fault(1, 26, "draft takes 1;man a plain coins 5");
    fault(1, 34, "draft takes 1;man a plain worth 5 asks 5");
    fault(1, 42, "draft takes 1;man a plain worth 5 coins 5 worth 5");
    fault(1, ONE.length() + 1, ONE + ";kins");
    fault(1, ONE.length() + 8, ONE + ";spares a");
    fault(1, ONE.length() + 8, ONE + ";doctor errs 1");
    fault(1, ONE.length() + 15, ONE + ";doctor hits 1 share 1");
    fault(1, ONE.length() + 22, ONE + ";doctor hits 1 errs 1 hits 1");
    fault(1, ONE.length() + 6, ONE + ";went 3");
    fault(1, ONE.length() + 8, ONE + ";went a a");
    fault(1, ONE.length() + 14, ONE + ";spares short lame");
  }

  @Edge(promise = 3, says = "(the end: its place)")
  static void cutAtEachToken() {
    String s = "draft takes 1;man a plain worth 5 coins 5 asks 5;man b lame worth 5 coins 5 asks 5;kin a b;spares lame;"
        + "doctor hits 1 errs 1 share 1;went b";
    int[] whole = {48, 82, 90, 102, 131, 138};
    int lines = 0;
    for (int n = 0; n <= s.length(); n++) {
      boolean cut = n == s.length() || n == 0 || s.charAt(n) == ' ' || s.charAt(n) == ';' || s.charAt(n - 1) == ';';
      if (!cut) continue;
      int end = n;
      if (Arrays.stream(whole).anyMatch(w -> w == end)) {
        good(s.substring(0, n), n < 82 ? 1 : 2);
        lines++;
      } else {
        fault(n == 13 ? 6 : 1, n, s.substring(0, n));
        fault(n == 13 ? 6 : 1, n + 2, s.substring(0, n) + "  ");
      }
    }
    is("lines that can end a text", lines, 6);
  }

  @Edge(promise = 3, says = "draft takes WHOLE (0 .. 5 men), ahead of all others")
  static void takesZeroToFive() {
    for (int takes = 0; takes <= 5; takes++) is("size(0)", told(takes, "a plain 5 5 5").size(0), takes);
    for (int takes : new int[] {6, 7, 10, 15, 100, 999}) fault(4, 12, text(takes, "a plain 5 5 5"));
    for (String line : new String[] {"man a plain worth 5 coins 5 asks 5", "kin a b", "spares lame", "doctor hits 1 errs 1 share 1", "went a"}) {
      fault(6, 0, line + ";" + ONE);
      fault(6, 2, "  " + line);
    }
  }

  @Edge(promise = 3, says = "(SORT: plain, married, short, or lame; 0 .. 99; 0 .. 200; 0 .. 99; up to 6)")
  static void whatAManHas() {
    LowNumber x = told(1, "a plain 0 0 0", "b married 99 200 99", "c short 1 1 1", "d lame 98 199 98");
    int[][] want = {{0, 0, 0, 0}, {1, 99, 200, 99}, {2, 1, 1, 1}, {3, 98, 199, 98}};
    for (int m = 0; m < 4; m++) for (int what = 0; what < 4; what++) is("man", x.man(m, what), want[m][what]);
    for (int more : new int[] {100, 101, 200, 999}) fault(4, 32, text(1, "a plain " + more + " 0 0"));
    for (int more : new int[] {201, 202, 300, 999}) fault(4, 40, text(1, "a plain 0 " + more + " 0"));
    for (int more : new int[] {100, 101, 200, 999}) fault(4, 47, text(1, "a plain 0 0 " + more));
    fault(1, 20, "draft takes 1;man a lam worth 5 coins 5 asks 5");
    fault(1, 20, "draft takes 1;man a lamer worth 5 coins 5 asks 5");
    for (int men = 1; men <= 6; men++) {
      LowNumber y = told(1, Arrays.copyOf(sixLines(), men));
      is("men", y.size(1), men);
    }
  }

  @Edge(promise = 3, says = "kin MAN MAN (unlike; once in whatever order; up to 6)")
  static void kinUpToSix() {
    String six = text(1, sixLines("kin a b", "kin a c", "kin a d", "kin a e", "kin a f", "kin b c"));
    good(six, 6);
    fault(5, six.length() + 1, six + ";kin b d");
    fault(5, six.length() + 2, six + "; kin");
    String five = text(1, sixLines("kin a b", "kin c d", "kin e f", "kin f a", "kin b c"));
    for (String again : new String[] {"a b", "b a", "f e", "a f", "c b", "d c"}) fault(3, five.length() + 7, five + ";kin " + again);
    for (String same : new String[] {"a a", "f f"}) fault(3, five.length() + 7, five + ";kin " + same);
    good(five + ";kin a c", 6);
    is("size(2)", told(1, sixLines("kin a b", "kin c d")).size(2), 2);
  }

  @Edge(promise = 3, says = "spares SORT (each once)")
  static void sortsOnce() {
    String all = ONE + ";spares lame;spares plain;spares married;spares short";
    LowNumber x = new LowNumber();
    is("draft", read(x, all), 1);
    is("spared()", x.spared(), 15);
    for (String sort : new String[] {"plain", "married", "short", "lame"}) {
      good(ONE + ";spares " + sort, 1);
      fault(3, all.length() + 8, all + ";spares " + sort);
      fault(3, ONE.length() + sort.length() + 16, ONE + ";spares " + sort + ";spares " + sort);
    }
    fault(1, all.length() + 8, all + ";spares none");
  }

  @Edge(promise = 3, says = "doctor hits WHOLE errs WHOLE share WHOLE (0 .. 100 in a hundred each; once)")
  static void doctorInAHundred() {
    good(ONE + ";doctor hits 0 errs 0 share 0", 1);
    good(ONE + ";doctor hits 100 errs 100 share 100", 1);
    int n = ONE.length();
    for (int more : new int[] {101, 110, 200, 999}) {
      fault(4, n + 13, ONE + ";doctor hits " + more + " errs 1 share 1");
      fault(4, n + 20, ONE + ";doctor hits 1 errs " + more + " share 1");
      fault(4, n + 28, ONE + ";doctor hits 1 errs 1 share " + more);
    }
    fault(3, n + 30, ONE + ";doctor hits 1 errs 1 share 1;doctor hits 1 errs 1 share 1");
  }

  @Edge(promise = 3, says = "went MAN (each once; up to 3)")
  static void wentUpToThree() {
    String three = text(1, sixLines("went f", "went a", "went c"));
    good(three, 6);
    fault(5, three.length() + 1, three + ";went b");
    fault(5, three.length() + 1, three + ";went a");
    fault(5, three.length() + 1, three + ";went zz");
    fault(5, three.length() + 1, three + ";went");
    String two = text(1, sixLines("went f", "went a"));
    for (String again : new String[] {"f", "a"}) fault(3, two.length() + 6, two + ";went " + again);
  }

  @Edge(promise = 3, says = "NAMES are WORDS but draft, man, kin, spares, doctor, went")
  static void wordsThatAreNoNames() {
    int n = ONE.length();
    for (String word : new String[] {"draft", "man", "kin", "spares", "doctor", "went"}) {
      fault(1, n + 5, ONE + ";man " + word + " plain worth 5 coins 5 asks 5");
      fault(1, n + 5, ONE + ";kin " + word + " a");
      fault(1, n + 7, ONE + ";kin a " + word);
      fault(1, n + 6, ONE + ";went " + word);
    }
    for (String word : new String[] {"takes", "worth", "coins", "asks", "hits", "errs", "share", "plain", "married", "short", "lame", "drafts", "ma", "wents"}) {
      good(ONE + ";man " + word + " plain worth 5 coins 5 asks 5;kin a " + word + ";went " + word, 2);
    }
  }

  @Edge(promise = 3, says = "each told once, ahead of its use")
  static void namesAheadOfTheirUse() {
    int n = ONE.length();
    fault(2, n + 7, ONE + ";kin a b;man b plain worth 5 coins 5 asks 5");
    fault(2, n + 5, ONE + ";kin b a;man b plain worth 5 coins 5 asks 5");
    fault(2, n + 6, ONE + ";went b;man b plain worth 5 coins 5 asks 5");
    fault(2, 18, "draft takes 1;kin a b");
    fault(2, 19, "draft takes 1;went a");
    good(ONE + ";went a;man b plain worth 5 coins 5 asks 5;kin b a;went b", 2);
  }

  @Edge(promise = 3, says = "FAULTS, the first that is met from the left")
  static void theLeftmostFault() {
    int n = ONE.length();
    fault(2, n + 6, ONE + ";went b;@");
    fault(1, n + 1, ONE + ";@went b");
    fault(4, 12, "draft takes 6;draft;@");
    fault(3, n + 1, ONE + ";draft takes 9;kin z z");
    fault(3, n + 5, ONE + ";man a lame worth 100");
    fault(4, n + 18, ONE + ";man b lame worth 100 coins 5 asks 5;man a");
    fault(2, n + 5, ONE + ";kin z z");
    fault(2, n + 7, ONE + ";kin a z@");
    fault(6, 0, "kin @");
    fault(6, 0, "went went");
    fault(1, 0, "@;kin");
    String six = text(1, sixLines());
    fault(5, six.length() + 1, six + ";man a lame worth 100");
    fault(5, six.length() + 1, six + ";man @");
    fault(1, six.length() + 1, six + ";mane a");
  }

  @Edge(promise = 3, says = "of one place the least number")
  static void theLeastNumberAtTheEnd() {
    // at the end a line is missing, and a man as well
    fault(1, 14, "draft takes 1;");
    fault(1, 0, "");
    fault(1, 11, "draft takes");
    fault(1, 5, "draft");
    fault(1, 21, "draft takes 1;spares ");
  }

  @Edge(promise = 3, says = "2 a NAME that isn't told; at it.")
  static void aNameThatIsntTold() {
    int n = ONE.length();
    for (String name : new String[] {"b", "aa", "plain", "abcdefgh"}) {
      fault(2, n + 5, ONE + ";kin " + name + " a");
      fault(2, n + 7, ONE + ";kin a " + name);
      fault(2, n + 6, ONE + ";went " + name);
    }
    // names of a text before aren't told by this one
    LowNumber x = told(1, THREE);
    is("draft", read(x, ONE + ";went b"), -1);
    is("fault()", x.fault(), 2);
    is("where()", x.where(), n + 6);
  }

  @Edge(promise = 3, says = "3 a NAME told again; at it")
  static void aNameToldAgain() {
    String six = text(1, Arrays.copyOf(sixLines(), 5));
    for (char c = 'a'; c <= 'e'; c++) fault(3, six.length() + 5, six + ";man " + c + " plain worth 1 coins 1 asks 1");
    fault(3, ONE.length() + 5, ONE + ";man a");
    fault(3, ONE.length() + 5, ONE + ";man a 7");
  }

  @Edge(promise = 3, says = "a second MAN that is the first, or kin of the first already; at it")
  static void aSecondManWhoIsTheFirst() {
    String two = text(1, "a plain 1 1 1", "b plain 1 1 1", "kin a b");
    fault(3, two.length() + 7, two + ";kin a a");
    fault(3, two.length() + 7, two + ";kin b b");
    fault(3, two.length() + 7, two + ";kin a b");
    fault(3, two.length() + 7, two + ";kin b a");
  }

  @Edge(promise = 3, says = "a SORT spared already, a MAN who went already; at it")
  static void sparedOrWentAlready() {
    fault(3, ONE.length() + 21, ONE + ";spares plain;spares plain");
    fault(3, ONE.length() + 13, ONE + ";went a;went a");
    good(ONE + ";spares plain;went a", 1);
  }

  @Edge(promise = 3, says = "a second draft, a second doctor: at that WORD.")
  static void aSecondDraftOrDoctor() {
    int n = ONE.length();
    fault(3, n + 1, ONE + ";draft");
    fault(3, 14, "draft takes 1;draft takes 1");
    fault(3, 15, "draft takes 1; draft");
    fault(3, n + 30, ONE + ";doctor hits 1 errs 1 share 1;doctor");
    fault(3, n + 31, ONE + ";doctor hits 1 errs 1 share 1; doctor @");
  }

  @Edge(promise = 3, says = "4 a WHOLE out of bounds; at it.")
  static void aWholeOutOfBounds() {
    fault(4, 12, "draft takes 6");
    fault(4, 13, "draft takes  006 x");
    fault(4, 11, "draft takes6 x");
    fault(4, 32, "draft takes 1;man a plain worth 100 coins 999");
    good("draft takes 1;man a plain worth 099 coins 200 asks 099", 1);
  }

  @Edge(promise = 3, says = "5 MANY: a LINE more of its sort than there is room for, at its first WORD.")
  static void aLineTooMany() {
    String men = text(1, sixLines());
    fault(5, men.length() + 1, men + ";man g plain worth 5 coins 5 asks 5");
    fault(5, men.length() + 1, men + ";man a");
    fault(5, men.length() + 3, men + ";  man");
    String kin = text(1, sixLines("kin a b", "kin a c", "kin a d", "kin a e", "kin a f", "kin f e"));
    fault(5, kin.length() + 1, kin + ";kin a b");
    fault(5, kin.length() + 1, kin + ";kin z z");
    String went = text(1, sixLines("went a", "went b", "went c"));
    fault(5, went.length() + 1, went + ";went d");
  }

  @Edge(promise = 3, says = "6 LACKS: any LINE ahead of the draft; at its WORD; at the end: no man.")
  static void linesThatLack() {
    for (String word : new String[] {"man", "kin", "spares", "doctor", "went"}) {
      fault(6, 0, word);
      fault(6, 1, " " + word + " x y z");
    }
    fault(6, 13, "draft takes 1");
    fault(6, 16, "draft takes 1   ");
    fault(6, 25, "draft takes 1;spares lame");
    fault(6, 42, "draft takes 1;doctor hits 1 errs 1 share 1");
    fault(6, 12, "draft takes0");
  }

  // ---- promise 3: draft

  @Edge(promise = 3, says = "NONE: 2 (THE TAPE stays)")
  static void noSuchNumberOfBytes() {
    LowNumber x = new LowNumber();
    refused(x, 2, () -> x.draft(1));
    refused(x, 2, () -> x.draft(-1));
    feedText(x, ONE);
    for (int n : new int[] {-1, 61, 62, 800, 801, LEAST, MOST}) refused(x, 2, () -> x.draft(n));
    is("the tape stays", x.size(9), 60);
    is("as many as it has", x.draft(60), 1);
    is("the tape is empty", x.size(9), 0);
    refused(x, 2, () -> x.draft(1));
    is("the draft stays", x.size(1), 1);
  }

  @Edge(promise = 3, says = "The first n bytes of THE TAPE (it is empty then) are the DRAFT from now on")
  static void theFirstBytesAlone() {
    LowNumber x = new LowNumber();
    feedText(x, ONE + "0;went a;went b");
    is("draft", x.draft(ONE.length()), 1);
    is("asks 5, not 50", x.man(0, 3), 5);
    is("nobody went", x.size(4), 0);
    is("the tape is empty", x.size(9), 0);
    feedText(x, ONE);
    refused(x, 4, () -> x.draft(0));
    is("empty too behind a fault", x.size(9), 0);
    is("where()", x.where(), 0);
    feedText(x, ONE + ";went a");
    is("nothing of the tape before", x.draft(ONE.length() + 7), 1);
    is("he went", x.size(4), 1);
  }

  @Edge(promise = 3, says = "(SEED 0, none held; nothing to undo, no IMAGES): how many men.")
  static void aNewDraftBeginsAnew() {
    LowNumber x = told(1, "a plain 10 9 3", "b plain 8 2 2", "c lame 7 7 0", "kin a b", "doctor hits 1 errs 1 share 1", "went b", "spares short");
    x.seed(1);
    x.hold();
    x.marry(1);
    x.image();
    is("draft", read(x, text(2, "z short 4 5 6")), 1);
    fine(x);
    int[] want = {2, 1, 0, 0, 0, 0, 0, 0, 0, 0};
    for (int what = 0; what < 10; what++) is("size " + what, x.size(what), want[what]);
    is("spared()", x.spared(), 0);
    is("fate(0)", x.fate(0), 0);
    is("kin", x.man(0, 4), 0);
    refused(x, 1, () -> x.man(1, 0));
    is("led throws", ledThrows(x, 0), true);
    is("undo()", x.undo(), false);
    is("back(0)", x.back(0), false);
    is("lot(0)", x.lot(0), -1);
    for (int men = 1; men <= 6; men++) is("men", read(x, text(1, Arrays.copyOf(sixLines(), men))), men);
  }

  @Edge(promise = 3, says = "are the DRAFT from now on")
  static void nothingIsLeftOfTextsBefore() {
    String full = text(5, "a plain 9 9 9", "b lame 9 9 9", "kin a b", "spares lame", "doctor hits 1 errs 1 share 1", "went a", "went b");
    LowNumber x = new LowNumber();
    for (int turn = 0; turn < 4; turn++) {
      is("a full text", read(x, full), 2);
      x.hold();
      is("a full text with a fault", read(x, full + ";"), -1);
      is("a short text", read(x, text(0, "a plain 9 9 9", "b lame 9 9 9")), 2);
      int[] want = {0, 2, 0, 0, 0, 0, 0, 0, 0, 0};
      for (int what = 0; what < 10; what++) is("size " + what, x.size(what), want[what]);
      is("spared()", x.spared(), 0);
      is("kin of a", x.man(0, 4), 0);
      is("kin of b", x.man(1, 4), 0);
      for (int m = 0; m < 2; m++) is("fate " + m, x.fate(m), 0);
      is("rows()", x.rows(), 2);
      is("could(0)", x.could(0), -1);
      is("no doctor", x.wrong(true), -1);
      part("taken", x.taken(0, false), x.taken(0, true), 0, 1);
      is("fills(15)", x.fills(15), 1);
    }
  }

  @Edge(promise = 3, says = "4 (the DRAFT stays).")
  static void aFaultLeavesTheDraft() {
    LowNumber x = told(1, "a plain 10 9 3", "b plain 8 2 2", "c lame 7 7 0", "kin a c", "doctor hits 50 errs 1 share 1", "went b", "spares short");
    x.seed(1);
    x.hold();
    x.marry(1);
    x.image();
    String full = text(5, "d lame 1 2 3", "e lame 4 5 6", "f lame 7 8 9", "kin d e", "kin e f", "spares lame", "doctor hits 1 errs 99 share 99", "went f", "went d");
    refused(x, 4, () -> read(x, full + ";went d"));
    refused(x, 4, () -> read(x, full + ";"));
    refused(x, 4, () -> read(x, ""));
    int[] a = {0, 10, 7, 3, 4, 0};
    for (int what = 0; what < 6; what++) is("man(0, " + what + ")", x.man(0, what), a[what]);
    is("he is married", x.man(1, 0), 1);
    is("spared()", x.spared(), 4);
    part("believed", x.believed(true, false), x.believed(true, true), 50, 149);
    is("fate(0)", x.fate(0), 2);
    is("could(0)", x.could(0), 5);
    is("undo()", x.undo(), true);
    is("he isn't married", x.man(1, 0), 0);
    is("back(0)", x.back(0), true);
    is("he is married", x.man(1, 0), 1);
  }

  // ---- promises 4 and 5: fault, where

  @Edge(promise = 4, says = "The FAULT of the latest draft() not refused by 2; 0 without one.")
  static void theLatestFault() {
    LowNumber x = new LowNumber();
    is("fault()", x.fault(), 0);
    x.draft(1);
    is("refused by 2 alone", x.fault(), 0);
    String[] texts = {"@", ONE + ";went b", ONE + ";draft", "draft takes 6", text(1, sixLines("man")), "kin"};
    for (int number = 1; number <= 6; number++) {
      read(x, texts[number - 1]);
      is("fault()", x.fault(), number);
      x.draft(MOST);
      x.spared();
      is("behind other calls", x.fault(), number);
    }
    read(x, ONE);
    is("a good one", x.fault(), 0);
    x.draft(-1);
    is("refused by 2 behind a good one", x.fault(), 0);
  }

  @Edge(promise = 5, says = "Its place, if the latest call that may be refused was by 4; NONE else.")
  static void whereItWas() {
    LowNumber x = new LowNumber();
    is("where()", x.where(), -1);
    read(x, "@");
    is("place 0", x.where(), 0);
    is("again", x.where(), 0);
    x.feed(0, 0, 0, 0, 0);
    x.size(11);
    x.fault();
    x.trouble();
    ledThrows(x, 0);
    is("calls that aren't refused by a number", x.where(), 0);
    x.spared();
    is("a call refused by 1", x.where(), -1);
    x.draft(0);
    read(x, " @");
    is("where()", x.where(), 1);
    x.draft(MOST);
    is("refused by 2", x.where(), -1);
    x.draft(0);
    is("where()", x.where(), 0);
    read(x, ONE);
    is("a good one", x.where(), -1);
    read(x, ONE + "@");
    is("where()", x.where(), ONE.length());
    x.spared();
    is("a call that wasn't refused", x.where(), -1);
    is("the fault is told still", x.fault(), 1);
  }

  // ---- promises 6 to 9: now

  @Edge(promise = 6, says = "5 1 if the law spares his SORT NOW. NONE: 1.")
  static void manAndWhatOutside() {
    LowNumber none = new LowNumber();
    refused(none, 1, () -> none.man(0, 0));
    LowNumber x = three();
    for (int what = 0; what <= 5; what++) {
      int w = what;
      x.man(0, what);
      fine(x);
      x.man(2, what);
      fine(x);
      refused(x, 1, () -> x.man(3, w));
      refused(x, 1, () -> x.man(-1, w));
    }
    LowNumber y = three();
    refusedOutside(y, 3, 1, m -> y.man(m, 0));
    refusedOutside(y, 6, 1, what -> y.man(0, what));
    LowNumber z = six(1);
    is("the sixth", z.man(5, 1), 6);
    refused(z, 1, () -> z.man(6, 0));
  }

  @Edge(promise = 6, says = "0 SORT NOW (0 plain, 1 married, 2 short, 3 lame), 1 worth, 2 coins NOW, 3 what he asks, 4 his kin, as bits")
  static void whatIsNow() {
    LowNumber x = told(1, sixLines("kin f a", "kin f b", "kin f c", "kin f d", "kin f e"));
    is("kin of all others", x.man(5, 4), 31);
    is("kin of the last", x.man(0, 4), 32);
    is("no kin", six(1).man(0, 4), 0);
    LowNumber y = told(1, "a plain 10 200 3", "b plain 8 2 99", "spares married");
    is("coins", y.man(0, 2), 200);
    is("the law spares him not", y.man(0, 5), 0);
    y.marry(0);
    is("married NOW", y.man(0, 0), 1);
    is("the law spares him NOW", y.man(0, 5), 1);
    y.spare(1, false);
    is("the law spares him no more", y.man(0, 5), 0);
  }

  @Edge(promise = 7, says = "SORTS that are spared NOW, as bits. NONE: 1 (no DRAFT).")
  static void sparedNoneToAll() {
    LowNumber none = new LowNumber();
    refused(none, 1, none::spared);
    LowNumber x = three();
    is("none", x.spared(), 0);
    fine(x);
    for (int sort = 0; sort < 4; sort++) {
      x.spare(sort, true);
      is("spared()", x.spared(), (2 << sort) - 1);
    }
    x.spare(0, false);
    is("spared()", x.spared(), 14);
  }

  @Edge(promise = 8, says = "How many men of a SORT there are NOW. NONE: 1 (no DRAFT); 2 (0 .. 3).")
  static void manyOfASort() {
    LowNumber none = new LowNumber();
    refused(none, 1, () -> none.many(0));
    refused(none, 1, () -> none.many(4));
    LowNumber x = six(1);
    is("all", x.many(0), 6);
    for (int sort = 1; sort < 4; sort++) is("none", x.many(sort), 0);
    fine(x);
    refusedOutside(x, 4, 2, x::many);
    x.marry(5);
    is("plain NOW", x.many(0), 5);
    is("married NOW", x.many(1), 1);
  }

  @Edge(promise = 9, says = "The cheapest of all who would go for one, if he alone were TAKEN; -2. NONE: 1.")
  static void wouldGoAtTheEdge() {
    LowNumber none = new LowNumber();
    refused(none, 1, () -> none.wouldGo(0));
    LowNumber x = three();
    is("b is the cheapest for a", x.wouldGo(0), 1);
    is("nobody for b", x.wouldGo(1), -2);
    fine(x);
    refusedOutside(x, 3, 1, x::wouldGo);
    is("nobody else", told(5, "a plain 99 200 0").wouldGo(0), -2);
    is("as many coins", told(1, "a plain 99 7 0", "b plain 0 0 7").wouldGo(0), 1);
    is("a coin too few", told(1, "a plain 99 6 0", "b plain 0 0 7").wouldGo(0), -2);
    is("less than his worth", told(1, "a plain 8 99 0", "b plain 0 0 7").wouldGo(0), 1);
    is("his worth", told(1, "a plain 7 99 0", "b plain 0 0 7").wouldGo(0), -2);
    is("of like ones the first", told(1, "a plain 9 9 0", "b plain 9 9 5", "c plain 9 9 4", "d plain 9 9 4").wouldGo(0), 2);
    is("a lame one", told(1, "a plain 9 9 0", "b lame 0 0 0").wouldGo(0), -2);
    is("kin, spared or not, in whatever number are taken", told(0, "a plain 9 9 9", "b married 9 9 1", "kin a b", "spares plain").wouldGo(0), 1);
    is("the sixth", told(1, "a plain 9 9 9", "b lame 9 9 1", "c plain 9 9 9", "d plain 9 9 9", "e plain 9 9 9", "f plain 9 9 8").wouldGo(0), 5);
  }

  // ---- promises 10 to 14: rows

  @Edge(promise = 10, says = "Who is TAKEN by a ROW, as bits. NONE: 1 (no DRAFT); 2 (no ROW).")
  static void rowsThatAreNone() {
    LowNumber none = new LowNumber();
    refused(none, 1, () -> none.takenBy(0));
    refused(none, 1, () -> none.takenBy(-1));
    noRows(LowNumber::takenBy);
  }

  interface ByRow {
    long by(LowNumber x, int row);
  }

  /** Numbers with too few digits, too many, a man twice, a man who isn't there. */
  private static void noRows(ByRow call) {
    LowNumber one = told(1, "a plain 5 5 5");
    call.by(one, 0);
    fine(one);
    for (int row : new int[] {1, -1, 10, 100, 9, LEAST, MOST}) refused(one, 2, () -> call.by(one, row));
    LowNumber x = three();
    for (int row : new int[] {12, 21, 102, 120, 201, 210}) {
      call.by(x, row);
      fine(x);
    }
    for (int row : new int[] {0, 1, 2, 10, 11, 22, 112, 122, 13, 123, 132, 213, 310, 1012, 2101, 3012, 10012, 1000012, -12, -210, LEAST, MOST}) {
      refused(x, 2, () -> call.by(x, row));
    }
    LowNumber y = six(5);
    for (int row : new int[] {12345, 54321, 501234, 543210, 105432}) {
      call.by(y, row);
      fine(y);
    }
    for (int row : new int[] {123456, 654321, 1234, 543211, 1012345, 2012345, 6012345, 54320, 543217, 5432106, LEAST, MOST, -543210}) {
      refused(y, 2, () -> call.by(y, row));
    }
  }

  @Edge(promise = 10, says = "else he is TAKEN, till so many as the draft takes are")
  static void takenTillEnough() {
    int[] bits = {0, 1, 3, 7, 15, 31};
    int[] turned = {0, 32, 48, 56, 60, 62};
    for (int takes = 0; takes <= 5; takes++) {
      is("of six", six(takes).takenBy(12345), bits[takes]);
      is("of six", six(takes).takenBy(543210), turned[takes]);
    }
    is("five of one", told(5, "a plain 5 5 5").takenBy(0), 1);
    is("none of one", told(0, "a plain 5 5 5").takenBy(0), 0);
    is("five of three", told(5, THREE).takenBy(201), 7);
  }

  @Edge(promise = 10, says = "a man is SPARED if the law spares his SORT NOW, or kin of his is TAKEN already")
  static void sparedByLawOrKin() {
    LowNumber x = told(3, "a plain 5 0 9", "b short 5 0 9", "c lame 5 0 9", "kin a b", "kin b c");
    is("b is spared, c's kin isn't taken", x.takenBy(12), 5);
    is("b ahead of both", x.takenBy(102), 2);
    is("b behind one", x.takenBy(210), 5);
    x.spare(0, true);
    is("a spared by the law spares nobody", x.takenBy(12), 2);
    x.marry(0);
    is("a married isn't spared", x.takenBy(12), 5);
    for (int sort = 1; sort < 4; sort++) x.spare(sort, true);
    is("all are spared", x.takenBy(12), 0);
  }

  @Edge(promise = 11, says = "Who GOES by it, as bits. NONE: likewise.")
  static void goesByRows() {
    LowNumber none = new LowNumber();
    refused(none, 1, () -> none.goesBy(0));
    refused(none, 1, () -> none.goesBy(-1));
    noRows(LowNumber::goesBy);
    is("nobody", told(0, THREE).goesBy(12), 0);
    is("b for a", three().goesBy(12), 2);
    is("b himself", three().goesBy(102), 2);
    is("all", told(5, THREE).goesBy(12), 7);
    is("the last five", six(5).goesBy(543210), 62);
  }

  @Edge(promise = 12, says = "Whom one SENDS by it; -2. NONE: 1; 2.")
  static void sendsByRows() {
    LowNumber none = new LowNumber();
    refused(none, 1, () -> none.sendsBy(0, 0));
    noRows((x, row) -> x.sendsBy(row, 0));
    LowNumber x = three();
    is("a sends b", x.sendsBy(12, 0), 1);
    is("b isn't taken", x.sendsBy(12, 1), -2);
    fine(x);
    is("b is taken", x.sendsBy(102, 1), -2);
    refusedOutside(x, 3, 1, m -> x.sendsBy(12, m));
    refused(x, 1, () -> x.sendsBy(13, 3));
    refused(x, 2, () -> x.sendsBy(13, 2));
  }

  @Edge(promise = 12, says = "one who isn't TAKEN, isn't lame, isn't SENT already")
  static void whoCannotBeSent() {
    LowNumber x = told(2, "a plain 50 50 0", "b plain 50 50 0", "c plain 1 0 5", "d lame 1 0 0");
    is("c, since b is taken and d lame", x.sendsBy(123, 0), 2);
    is("c is sent already", x.sendsBy(123, 1), -2);
    is("b is first by this row", x.sendsBy(1023, 1), 2);
    is("so c is sent already", x.sendsBy(1023, 0), -2);
    is("all are taken", told(5, "a plain 50 50 0", "b plain 50 50 0").sendsBy(1, 0), -2);
    LowNumber y = told(1, "a plain 50 50 0", "d lame 1 0 0");
    is("a lame one", y.sendsBy(1, 0), -2);
    y.marry(1);
    is("he isn't lame NOW", y.sendsBy(1, 0), 1);
    is("one who is spared", told(1, "a plain 50 50 0", "b married 1 0 0", "kin a b", "spares married").sendsBy(1, 0), 1);
  }

  /** b sends a, whose number is 0. */
  private static LowNumber firstIsSent() {
    return told(2, "a married 9 9 2", "b plain 9 5 9", "c lame 9 5 9", "spares married", "went a");
  }

  @Edge(promise = 12, says = "each SENDS another one, if he can")
  static void manZeroIsSent() {
    LowNumber x = firstIsSent();
    is("b sends a", x.sendsBy(12, 1), 0);
    is("a is sent already", x.sendsBy(12, 2), -2);
    is("c sends a", x.sendsBy(210, 2), 0);
    is("a is sent already", x.sendsBy(210, 1), -2);
    of(9);
    is("wouldGo", x.wouldGo(1), 0);
    of(11);
    is("a and c go", x.goesBy(12), 5);
    of(13);
    is("what b pays", x.lossBy(12, 1), 2);
    is("c's worth", x.lossBy(12, 2), 9);
    of(16);
    part("a goes surely", x.goes(0, false), x.goes(0, true), 1, 1);
    part("b by half", x.goes(1, false), x.goes(1, true), 1, 2);
    of(17);
    part("a for b", x.goesFor(0, 1, false), x.goesFor(0, 1, true), 1, 2);
    of(18);
    part("loss of b", x.loss(1, false), x.loss(1, true), 11, 2);
    of(29);
    is("could(0)", x.could(0), 6);
    of(40);
    is("sentIn", x.sentIn(0, 0, 90), 90);
    is("not sentIn", x.sentIn(1, 0, 90), 0);
    of(41);
    is("lossIn", x.lossIn(0, 90), 990);
    of(44);
    int goes = x.hold();
    int sender = goes == 5 ? 1 : 2;
    is("a goes and one of b, c", goes == 5 || goes == 3, true);
    is("he has paid", x.man(sender, 2), 3);
    is("the other one hasn't", x.man(3 - sender, 2), 5);
    of(46);
    is("sent", x.fate(0), 3);
    is("sends", x.fate(sender), 2);
    is("goes", x.fate(3 - sender), 1);
    of(52);
    is("led(0)", x.led(0), 0);
    is("led(1)", x.led(1), 3 - sender);
    of(45);
    is("desert(0)", x.desert(0), sender);
  }

  @Edge(promise = 12, says = "who asks no more than he has coins NOW and less than his worth")
  static void asksLikeCoinsOrWorth() {
    is("as many coins", told(1, "a plain 99 7 0", "b plain 0 0 7").sendsBy(1, 0), 1);
    is("a coin too few", told(1, "a plain 99 6 0", "b plain 0 0 7").sendsBy(1, 0), -2);
    is("less than his worth", told(1, "a plain 8 99 0", "b plain 0 0 7").sendsBy(1, 0), 1);
    is("his worth", told(1, "a plain 7 99 0", "b plain 0 0 7").sendsBy(1, 0), -2);
    is("asks nothing, no coins", told(1, "a plain 1 0 0", "b plain 0 0 0").sendsBy(1, 0), 1);
    is("worth nothing", told(1, "a plain 0 200 0", "b plain 0 0 0").sendsBy(1, 0), -2);
    is("asks most", told(1, "a plain 99 200 0", "b plain 0 0 98").sendsBy(1, 0), 1);
    is("asks as much as anybody is worth", told(1, "a plain 99 200 0", "b plain 0 0 99").sendsBy(1, 0), -2);
    LowNumber x = told(1, "a plain 99 13 0", "b plain 0 0 7");
    x.seed(TO_ONE);
    x.hold();
    is("a has paid", x.man(0, 2), 6);
    is("coins NOW", x.sendsBy(1, 0), -2);
  }

  @Edge(promise = 12, says = "the cheapest, of like ones the first by numbers")
  static void cheapestThenFirst() {
    LowNumber x = told(2, "a plain 50 50 40", "b plain 50 50 40", "c plain 1 0 5", "d plain 1 0 5", "e plain 1 0 6");
    is("the first", x.sendsBy(1234, 0), 2);
    is("then the second", x.sendsBy(1234, 1), 3);
    is("by numbers, not by the row", x.sendsBy(10432, 1), 2);
    is("by the row those who send", x.sendsBy(10432, 0), 3);
    is("the cheaper one behind", told(1, "a plain 50 50 9", "b plain 1 1 6", "c plain 1 1 5", "d plain 1 1 6").sendsBy(123, 0), 2);
  }

  @Edge(promise = 13, says = "LOSS of one by it. NONE: 1; 2.")
  static void lossByRows() {
    LowNumber none = new LowNumber();
    refused(none, 1, () -> none.lossBy(0, 0));
    noRows((x, row) -> x.lossBy(row, 0));
    LowNumber x = three();
    refusedOutside(x, 3, 1, m -> x.lossBy(12, m));
    refused(x, 1, () -> x.lossBy(13, 3));
    refused(x, 2, () -> x.lossBy(13, 2));
  }

  @Edge(promise = 13, says = "LOSS: what he pays, or his worth, if he SENDS none; others lose nothing.")
  static void whatIsLost() {
    LowNumber x = three();
    is("what he pays", x.lossBy(12, 0), 2);
    is("who is sent loses nothing", x.lossBy(12, 1), 0);
    is("others lose nothing", x.lossBy(12, 2), 0);
    is("his worth", x.lossBy(102, 1), 8);
    is("he pays nothing", told(1, "a plain 9 0 9", "b plain 9 9 0").lossBy(1, 0), 0);
    is("worth nothing", told(1, "a plain 0 9 9", "b plain 9 9 0").lossBy(1, 0), 0);
    is("worth most", told(1, "a plain 99 0 9").lossBy(0, 0), 99);
    is("pays most", told(1, "a plain 99 200 9", "b plain 9 9 98").lossBy(1, 0), 98);
  }

  @Edge(promise = 14, says = "The first ROW (by men, one by one) by which one is TAKEN; -2 by none. NONE: 1.")
  static void theFirstRow() {
    LowNumber none = new LowNumber();
    refused(none, 1, () -> none.firstTaken(0));
    LowNumber x = six(1);
    int[] want = {12345, 102345, 201345, 301245, 401235, 501234};
    for (int m = 0; m < 6; m++) is("firstTaken", x.firstTaken(m), want[m]);
    fine(x);
    refusedOutside(x, 6, 1, x::firstTaken);
    is("one man", told(1, "a plain 5 5 5").firstTaken(0), 0);
    is("none are taken", six(0).firstTaken(0), -2);
    LowNumber y = told(1, "a plain 5 5 5", "b lame 5 5 5", "spares lame");
    is("spared by the law", y.firstTaken(1), -2);
    fine(y);
    // three are kin of d: he must be ahead of all
    LowNumber z = told(5, "a plain 5 0 5", "b plain 5 0 5", "c plain 5 0 5", "d plain 5 0 5", "kin a d", "kin b d", "kin c d");
    is("kin of all", z.firstTaken(3), 3012);
    // five are taken of six: the last one by the first row but one
    is("firstTaken(5) of five", six(5).firstTaken(5), 12354);
  }

  // ---- promises 15 to 23: odds

  @Edge(promise = 15, says = "the upper WHOLE or the lower, in lowest terms (0 by 1). -1: 1.")
  static void takenInLowestTerms() {
    LowNumber none = new LowNumber();
    refused(none, 1, () -> none.taken(0, true));
    int[][] want = {{0, 1}, {1, 6}, {1, 3}, {1, 2}, {2, 3}, {5, 6}};
    for (int takes = 0; takes <= 5; takes++) {
      LowNumber x = six(takes);
      for (int m = 0; m < 6; m++) part("taken", x.taken(m, false), x.taken(m, true), want[takes][0], want[takes][1]);
      fine(x);
    }
    LowNumber y = told(5, THREE);
    part("surely", y.taken(2, false), y.taken(2, true), 1, 1);
    refusedOutside(y, 3, 1, m -> y.taken(m, false));
    refused(y, 1, () -> y.taken(3, true));
  }

  @Edge(promise = 16, says = "How likely one GOES, likewise. -1: 1.")
  static void goesNeverToSurely() {
    LowNumber none = new LowNumber();
    refused(none, 1, () -> none.goes(0, false));
    LowNumber x = three();
    part("never", x.goes(0, false), x.goes(0, true), 0, 1);
    part("surely", x.goes(1, false), x.goes(1, true), 1, 1);
    fine(x);
    refusedOutside(x, 3, 1, m -> x.goes(m, true));
    refused(x, 1, () -> x.goes(3, false));
    LowNumber y = told(0, THREE);
    part("none are taken", y.goes(1, false), y.goes(1, true), 0, 1);
    part("five of six", six(5).goes(0, false), six(5).goes(5, true), 5, 6);
  }

  @Edge(promise = 17, says = "How likely one goes for another one, likewise. -1: 1 (unlike).")
  static void goesForAnother() {
    LowNumber none = new LowNumber();
    refused(none, 1, () -> none.goesFor(0, 1, true));
    LowNumber x = three();
    part("b for a", x.goesFor(1, 0, false), x.goesFor(1, 0, true), 1, 3);
    part("not a for b", x.goesFor(0, 1, false), x.goesFor(0, 1, true), 0, 1);
    fine(x);
    for (int m = 0; m < 3; m++) {
      int same = m;
      refused(x, 1, () -> x.goesFor(same, same, false));
    }
    LowNumber y = three();
    refusedOutside(y, 3, 1, m -> y.goesFor(m, 0, true));
    refusedOutside(y, 3, 1, m -> y.goesFor(0, m, false));
    LowNumber z = told(1, "a plain 9 9 0", "b married 9 9 0", "spares married");
    part("surely", z.goesFor(1, 0, false), z.goesFor(1, 0, true), 1, 1);
    LowNumber all = six(5);
    part("never, of six", all.goesFor(5, 0, false), all.goesFor(5, 0, true), 0, 1);
  }

  @Edge(promise = 18, says = "MEAN LOSS of one: what his insurance is worth, likewise. -1: 1.")
  static void meanLoss() {
    LowNumber none = new LowNumber();
    refused(none, 1, () -> none.loss(0, true));
    LowNumber x = six(2);
    for (int m = 0; m < 6; m++) {
      long worth = m + 1;
      part("a third of his worth", x.loss(m, false), x.loss(m, true), worth % 3 == 0 ? worth / 3 : worth, worth % 3 == 0 ? 1 : 3);
    }
    fine(x);
    refusedOutside(x, 6, 1, m -> x.loss(m, false));
    part("nothing", six(0).loss(5, false), six(0).loss(5, true), 0, 1);
    part("a whole by 1", told(1, "a plain 99 0 0").loss(0, false), told(1, "a plain 99 0 0").loss(0, true), 99, 1);
  }

  @Edge(promise = 19, says = "MEAN LOSS of a CLUB, as bits (1 .. all), for each of its men, likewise. -1: 1.")
  static void clubsOfOneToAll() {
    LowNumber none = new LowNumber();
    refused(none, 1, () -> none.club(1, true));
    LowNumber x = three();
    int[][] want = {{2, 3}, {8, 3}, {5, 3}, {2, 3}, {2, 3}, {5, 3}, {4, 3}};
    for (int men = 1; men <= 7; men++) part("club " + men, x.club(men, false), x.club(men, true), want[men - 1][0], want[men - 1][1]);
    fine(x);
    for (int men : new int[] {0, -1, 8, 9, 15, 16, 64, LEAST, MOST}) {
      refused(x, 1, () -> x.club(men, men % 2 == 0));
    }
    LowNumber y = six(5);
    // 21 in all, five sixths of it, for each of six
    part("all six", y.club(63, false), y.club(63, true), 35, 12);
    refused(y, 1, () -> y.club(64, false));
    part("none lose", six(0).club(63, false), six(0).club(63, true), 0, 1);
  }

  @Edge(promise = 20, says = "How likely a CLUB's LOSS is above so much (0 .. 999), likewise. -1: 1; 2.")
  static void aboveSoMuch() {
    LowNumber none = new LowNumber();
    refused(none, 1, () -> none.ruin(1, 0, true));
    LowNumber x = three();
    int[][] want = {{0, 1, 1}, {1, 1, 1}, {2, 1, 3}, {7, 1, 3}, {8, 0, 1}, {9, 0, 1}, {998, 0, 1}, {999, 0, 1}};
    for (int[] w : want) part("ruin(7, " + w[0] + ")", x.ruin(7, w[0], false), x.ruin(7, w[0], true), w[1], w[2]);
    part("ruin(3, 0)", x.ruin(3, 0, false), x.ruin(3, 0, true), 2, 3);
    fine(x);
    for (int much : new int[] {-1, -2, 1000, 1001, LEAST, MOST}) refused(x, 2, () -> x.ruin(7, much, much % 2 == 0));
    LowNumber y = three();
    for (int men : new int[] {0, -1, 8, 9, 16, 64, LEAST, MOST}) {
      refused(y, 1, () -> y.ruin(men, 0, true));
      refused(y, 1, () -> y.ruin(men, 1000, true));
    }
    LowNumber z = told(0, THREE);
    part("a loss of 0 isn't above 0", z.ruin(7, 0, false), z.ruin(7, 0, true), 0, 1);
    LowNumber most = told(5, "a plain 99 0 9", "b plain 99 0 9", "c plain 99 0 9", "d plain 99 0 9", "e plain 99 0 9");
    part("495", most.ruin(31, 494, false), most.ruin(31, 494, true), 1, 1);
    part("495", most.ruin(31, 495, false), most.ruin(31, 495, true), 0, 1);
    // all of 21 but the worth of the one who is left out
    LowNumber all = six(5);
    int[][] of = {{14, 1, 1}, {15, 5, 6}, {16, 2, 3}, {17, 1, 2}, {18, 1, 3}, {19, 1, 6}, {20, 0, 1}};
    for (int[] w : of) part("ruin(63, " + w[0] + ")", all.ruin(63, w[0], false), all.ruin(63, w[0], true), w[1], w[2]);
  }

  @Edge(promise = 21, says = "added to a CLUB (0: nobody yet), each would pay least on the mean, the first such; -2 all are in it.")
  static void whoJoins() {
    LowNumber x = three();
    int[] want = {0, 2, 0, 2, 0, 1, 0, -2};
    for (int men = 0; men < 8; men++) is("toJoin(" + men + ")", x.toJoin(men), want[men]);
    fine(x);
    is("the first of like ones", told(0, THREE).toJoin(0), 0);
    is("the first of like ones left", told(0, THREE).toJoin(1), 1);
    is("the last", six(1).toJoin(31), 5);
    is("all six", six(1).toJoin(63), -2);
    is("he who loses nothing", told(1, "a plain 5 0 9", "b plain 4 0 9", "c lame 9 0 9", "spares lame").toJoin(0), 2);
  }

  @Edge(promise = 21, says = "NONE: 1 (no DRAFT, no such CLUB).")
  static void noClubToJoin() {
    LowNumber none = new LowNumber();
    refused(none, 1, () -> none.toJoin(0));
    LowNumber x = three();
    for (int men : new int[] {-1, 8, 9, 15, 16, 64, LEAST, MOST}) refused(x, 1, () -> x.toJoin(men));
    LowNumber y = six(1);
    refused(y, 1, () -> y.toJoin(64));
  }

  @Edge(promise = 22, says = "How likely fewer are TAKEN than the draft takes, likewise. -1: 1 (no DRAFT).")
  static void fewerAreTaken() {
    LowNumber none = new LowNumber();
    refused(none, 1, () -> none.shortOf(true));
    refused(none, 1, () -> none.shortOf(false));
    for (int takes = 0; takes <= 5; takes++) {
      LowNumber x = told(takes, THREE);
      part("of three", x.shortOf(false), x.shortOf(true), takes > 3 ? 1 : 0, 1);
      fine(x);
    }
    // b is kin of both others: short if he is first
    LowNumber y = told(2, "a plain 1 1 1", "b plain 1 1 1", "c lame 1 1 1", "kin a b", "kin c b");
    part("by b", y.shortOf(false), y.shortOf(true), 1, 3);
    y.spare(3, true);
    part("c is spared", y.shortOf(false), y.shortOf(true), 1, 1);
    LowNumber z = told(0, "a plain 1 1 1", "spares plain");
    part("none of none", z.shortOf(false), z.shortOf(true), 0, 1);
  }

  @Edge(promise = 23, says = "MEAN LOSS of one, were he married, likewise. -1: 1.")
  static void wereHeMarried() {
    LowNumber none = new LowNumber();
    refused(none, 1, () -> none.ifMarried(0, true));
    LowNumber x = three();
    part("the law spares none", x.ifMarried(0, false), x.ifMarried(0, true), 2, 3);
    fine(x);
    String before = sizes(x);
    x.ifMarried(2, true);
    is("nothing has changed", sizes(x).equals(before), true);
    is("he is lame still", x.man(2, 0), 3);
    part("his odds are as they were", x.goesFor(1, 0, false), x.goesFor(1, 0, true), 1, 3);
    refusedOutside(x, 3, 1, m -> x.ifMarried(m, true));
    refused(x, 1, () -> x.ifMarried(3, false));
    LowNumber y = told(1, "a plain 9 0 9", "b married 9 0 9", "spares married");
    part("spared", y.ifMarried(0, false), y.ifMarried(0, true), 0, 1);
    part("he is", y.ifMarried(1, false), y.ifMarried(1, true), 0, 1);
    part("not by now", y.loss(0, false), y.loss(0, true), 9, 1);
    LowNumber z = told(1, "a plain 9 0 9", "b lame 8 0 9", "spares lame");
    part("spared no more", z.ifMarried(1, false), z.ifMarried(1, true), 4, 1);
  }

  // ---- promises 24 to 27: laws

  @Edge(promise = 24, says = "HARM by a LAW (0 .. 15), likewise. -1: 1 (no DRAFT); 2.")
  static void harmByLaws() {
    LowNumber none = new LowNumber();
    refused(none, 1, () -> none.harm(0, true));
    refused(none, 1, () -> none.harm(16, true));
    LowNumber x = three();
    int[][] want = {{4, 1}, {2, 1}, {4, 1}, {2, 1}, {4, 1}, {2, 1}, {4, 1}, {2, 1}, {5, 1}, {0, 1}, {5, 1}, {0, 1}, {5, 1}, {0, 1}, {5, 1}, {0, 1}};
    for (int law = 0; law < 16; law++) part("harm " + law, x.harm(law, false), x.harm(law, true), want[law][0], want[law][1]);
    fine(x);
    for (int law : new int[] {-1, -16, 16, 17, 31, 32, LEAST, MOST}) refused(x, 2, () -> x.harm(law, law % 2 == 0));
    LowNumber y = told(1, "a plain 3 0 9", "b plain 4 0 9");
    part("lowest terms", y.harm(0, false), y.harm(0, true), 7, 2);
  }

  @Edge(promise = 24, says = "(bits: 1 plain, 2 married, 4 short, 8 lame), in place of those NOW")
  static void lawsInPlaceOfThoseNow() {
    LowNumber x = told(1, "a plain 1 0 9", "b married 2 0 9", "c short 4 0 9", "d lame 8 0 9", "spares plain", "spares married", "spares short", "spares lame");
    int[] bits = {14, 13, 11, 7};
    for (int sort = 0; sort < 4; sort++) part("all but one", x.harm(bits[sort], false), x.harm(bits[sort], true), 1 << sort, 1);
    part("none", x.harm(0, false), x.harm(0, true), 15, 4);
    part("all", x.harm(15, false), x.harm(15, true), 0, 1);
    x.marry(0);
    part("sorts NOW", x.harm(14, false), x.harm(14, true), 0, 1);
    part("sorts NOW", x.harm(13, false), x.harm(13, true), 3, 2);
  }

  @Edge(promise = 25, says = "1 if by a LAW by each ROW as many are TAKEN as the draft takes, else 0. NONE: 1 (no DRAFT); 2.")
  static void lawsThatFill() {
    LowNumber none = new LowNumber();
    refused(none, 1, () -> none.fills(0));
    refused(none, 1, () -> none.fills(-1));
    LowNumber x = three();
    for (int law = 0; law < 16; law++) is("fills " + law, x.fills(law), (law & 9) == 9 ? 0 : 1);
    fine(x);
    for (int law : new int[] {-1, -16, 16, 17, 31, 32, LEAST, MOST}) refused(x, 2, () -> x.fills(law));
    is("none are to be taken", told(0, THREE).fills(15), 1);
    is("all are to be taken", told(3, THREE).fills(0), 1);
    is("more than there are", told(4, THREE).fills(0), 0);
    is("by some rows alone", told(2, "a plain 1 1 1", "b plain 1 1 1", "c lame 1 1 1", "kin a b", "kin c b").fills(0), 0);
    is("in place of those NOW", told(1, "a plain 1 1 1", "spares plain").fills(0), 1);
  }

  @Edge(promise = 26, says = "BEST; -2 none. NONE: 1 (no DRAFT).")
  static void theBestLaw() {
    LowNumber none = new LowNumber();
    refused(none, 1, none::bestLaw);
    LowNumber x = told(4, THREE);
    is("none fills", x.bestLaw(), -2);
    fine(x);
    is("no rows fill by kin", told(2, "a plain 1 1 1", "b plain 1 1 1", "kin a b").bestLaw(), -2);
    is("the least harm", three().bestLaw(), 1);
    is("not that of less harm which doesn't fill", told(2, "a plain 9 0 9", "b lame 9 0 9").bestLaw(), 0);
  }

  @Edge(promise = 26, says = "that of least HARM; of like ones the least bits")
  static void likeLaws() {
    is("all are alike", told(0, THREE).bestLaw(), 0);
    is("3, not 11", told(1, "a plain 9 0 9", "b married 9 0 9", "c short 5 0 9").bestLaw(), 3);
    is("8, not 10", told(1, "a plain 5 0 9", "b lame 9 0 9").bestLaw(), 8);
    is("the highest one that counts", told(1, "a plain 9 0 9", "b married 8 0 9", "c short 7 0 9", "d lame 6 0 9").bestLaw(), 7);
    is("14", told(1, "a plain 6 0 9", "b married 8 0 9", "c short 7 0 9", "d lame 9 0 9").bestLaw(), 14);
  }

  @Edge(promise = 27, says = "the first such, whether as many are TAKEN or not; -2 all are spared. NONE: 1 (no DRAFT).")
  static void whomToSpare() {
    LowNumber none = new LowNumber();
    refused(none, 1, none::toSpare);
    LowNumber x = told(1, "a lame 9 0 9");
    is("though none is taken", x.toSpare(), 3);
    x.spare(3, true);
    is("the first of like ones", x.toSpare(), 0);
    x.spare(0, true);
    is("the first of those left", x.toSpare(), 1);
    x.spare(1, true);
    is("the last", x.toSpare(), 2);
    x.spare(2, true);
    is("all are spared", x.toSpare(), -2);
    fine(x);
    is("the second of two", told(1, "a plain 5 0 9", "b married 9 0 9", "spares short", "spares lame").toSpare(), 1);
    is("but one is left", told(1, "a plain 5 0 9", "b married 9 0 9", "spares married", "spares short", "spares lame").toSpare(), 0);
  }

  // ---- promises 28 to 33: who went

  private static final String[] PAIR = {"a plain 9 9 9", "b plain 9 3 9", "c plain 9 9 9", "d married 9 9 5", "e married 9 9 2", "spares married"};

  private static LowNumber pair(String... went) {
    List<String> lines = new ArrayList<>(Arrays.asList(PAIR));
    for (String name : went) lines.add("went " + name);
    return told(2, lines.toArray(new String[0]));
  }

  @Edge(promise = 28, says = "WENT: how many ROWS. NONE: 1 (no DRAFT).")
  static void rowsThatFit() {
    LowNumber none = new LowNumber();
    refused(none, 1, none::rows);
    int[] all = {1, 2, 6, 24, 120, 720};
    for (int men = 1; men <= 6; men++) is("nobody told: all fit", told(5, Arrays.copyOf(sixLines(), men)).rows(), all[men - 1]);
    is("none are taken, nobody told", six(0).rows(), 720);
    LowNumber x = told(0, "a plain 9 9 9", "b plain 9 9 1", "went b");
    is("none are taken", x.rows(), 0);
    fine(x);
    is("a lame one isn't sent", told(1, "a plain 9 9 9", "b lame 9 9 1", "went b").rows(), 0);
    // e goes by each row; d too, if the second one can pay: a c, b a, b c, c a, 20 rows each
    is("one told", pair("e").rows(), 120);
    is("all that were told", pair("e", "d").rows(), 80);
    is("a third who never goes", pair("e", "d", "a").rows(), 0);
    LowNumber y = pair("e", "d");
    y.spare(0, true);
    is("by the law NOW", y.rows(), 0);
  }

  @Edge(promise = 28, says = "WENT: ROWS by which all that were told are SENT: all that fit.")
  static void oneRowFits() {
    // b ahead of a: b sends a; a can't send b, who asks as much as a is worth
    LowNumber x = told(1, "a plain 1 1 1", "b plain 9 9 1", "went a");
    is("rows()", x.rows(), 1);
    is("again", x.rows(), 1);
    of(29);
    is("could(0)", x.could(0), 2);
    of(30);
    is("surely(0)", x.surely(0), 1);
    of(31);
    is("ask()", x.ask(), 0);
    of(32);
    is("askLeaves()", x.askLeaves(), 1);
    of(33);
    is("surelyTaken()", x.surelyTaken(), 2);
    x.spare(0, true);
    of(28);
    is("none fits", x.rows(), 0);
    of(29);
    is("could(0)", x.could(0), 0);
    of(30);
    is("surely(0)", x.surely(0), -2);
    of(31);
    is("ask()", x.ask(), -2);
    of(32);
    is("askLeaves()", x.askLeaves(), -2);
    of(33);
    is("surelyTaken()", x.surelyTaken(), 0);
  }

  @Edge(promise = 28, says = "went MAN (each once; up to 3)")
  static void threeToldWhoFit() {
    LowNumber x = told(3, "a plain 9 9 9", "b plain 9 9 9", "c lame 9 9 9", "d married 1 0 1", "e married 1 0 2", "f married 1 0 3",
        "spares married", "went f", "went d", "went e");
    is("rows()", x.rows(), 720);
    of(29);
    for (int k = 0; k < 3; k++) is("could " + k, x.could(k), 7);
    of(30);
    for (int k = 0; k < 3; k++) is("surely " + k, x.surely(k), -2);
    of(31);
    is("ask()", x.ask(), 0);
    of(32);
    is("askLeaves()", x.askLeaves(), 240);
    of(33);
    is("surelyTaken()", x.surelyTaken(), 7);
  }

  @Edge(promise = 29, says = "For whom the k-th told went, in some, as bits. NONE: 1.")
  static void forWhomOneCouldHaveGone() {
    LowNumber none = new LowNumber();
    refused(none, 1, () -> none.could(0));
    LowNumber nobody = three();
    refused(nobody, 1, () -> nobody.could(0));
    LowNumber x = pair("e", "d");
    is("e", x.could(0), 7);
    is("d", x.could(1), 5);
    fine(x);
    refusedOutside(x, 2, 1, x::could);
    LowNumber y = pair("e", "d", "a");
    for (int k = 0; k < 3; k++) is("no rows", y.could(k), 0);
    fine(y);
    refused(y, 1, () -> y.could(3));
    LowNumber z = told(1, "a plain 9 9 1", "b lame 9 9 9", "c lame 9 9 9", "d lame 9 9 9", "e lame 9 9 9", "f lame 9 9 9", "went a");
    is("for five", z.could(0), 62);
  }

  @Edge(promise = 30, says = "The one in all; -2. NONE: 1.")
  static void forWhomOneSurelyWent() {
    LowNumber none = new LowNumber();
    refused(none, 1, () -> none.surely(0));
    LowNumber nobody = three();
    refused(nobody, 1, () -> nobody.surely(0));
    LowNumber x = pair("e", "d");
    is("not in all", x.surely(0), -2);
    is("not in all", x.surely(1), -2);
    fine(x);
    refusedOutside(x, 2, 1, x::surely);
    LowNumber y = pair("e", "d", "a");
    for (int k = 0; k < 3; k++) is("no rows", y.surely(k), -2);
    fine(y);
    refused(y, 1, () -> y.surely(3));
    is("the first man", told(1, "a plain 9 9 9", "b married 9 9 1", "spares married", "went b").surely(0), 0);
    is("the last man", told(1, "a married 9 9 1", "b plain 9 9 9", "spares married", "went a").surely(0), 1);
  }

  @Edge(promise = 31, says = "ASK; -2 there are no ROWS, nobody told. NONE: 1 (no DRAFT).")
  static void whomToAsk() {
    LowNumber none = new LowNumber();
    refused(none, 1, none::ask);
    LowNumber nobody = three();
    is("nobody told", nobody.ask(), -2);
    fine(nobody);
    LowNumber no = pair("e", "d", "a");
    is("no rows", no.ask(), -2);
    fine(no);
    is("one told", pair("e").ask(), 0);
  }

  @Edge(promise = 31, says = "it being told for whom he went, at most fewest ROWS are left, the first such")
  static void theFirstToAsk() {
    // d: a 40, c 40; e: a 20, b 40, c 20: alike
    is("the first of like ones", pair("d", "e").ask(), 0);
    is("the first of like ones", pair("e", "d").ask(), 0);
    // d: a 180, e 180; c: a 60, b 120, e 60, f 120
    String[] men = {"a plain 9 9 9", "b plain 9 1 9", "c married 1 0 1", "d married 9 9 5", "e plain 9 9 9", "f plain 9 1 9", "spares married"};
    is("the second leaves fewer", askOf(men, "d", "c"), 1);
    is("the first leaves fewer", askOf(men, "c", "d"), 0);
  }

  private static int askOf(String[] men, String one, String other) {
    String[] lines = Arrays.copyOf(men, men.length + 2);
    lines[men.length] = "went " + one;
    lines[men.length + 1] = "went " + other;
    LowNumber x = told(2, lines);
    is("askLeaves()", x.askLeaves(), 120);
    return x.ask();
  }

  @Edge(promise = 32, says = "How many are left at most then; -2 likewise. NONE: 1 (no DRAFT).")
  static void howManyAreLeft() {
    LowNumber none = new LowNumber();
    refused(none, 1, none::askLeaves);
    LowNumber nobody = three();
    is("nobody told", nobody.askLeaves(), -2);
    fine(nobody);
    LowNumber no = pair("e", "d", "a");
    is("no rows", no.askLeaves(), -2);
    fine(no);
    is("of 80", pair("d", "e").askLeaves(), 40);
    // e is sent by the first of two: a third of 120
    is("a third", pair("e").askLeaves(), 40);
    is("all, where it is sure", told(1, "a plain 9 9 9", "b married 9 9 1", "spares married", "went b").askLeaves(), 2);
  }

  @Edge(promise = 33, says = "Men who are TAKEN in all of these ROWS (0 without), as bits. NONE: 1 (no DRAFT).")
  static void whoIsSurelyTaken() {
    LowNumber none = new LowNumber();
    refused(none, 1, none::surelyTaken);
    LowNumber no = pair("e", "d", "a");
    is("no rows", no.surelyTaken(), 0);
    fine(no);
    is("nobody told, not in all rows", three().surelyTaken(), 0);
    is("nobody told, all are taken", told(3, THREE).surelyTaken(), 7);
    is("nobody told, some surely", told(5, "a plain 1 0 9", "b lame 1 0 9", "spares lame").surelyTaken(), 1);
    is("by the rows that fit alone", told(1, "a plain 1 1 1", "b plain 9 9 1", "went a").surelyTaken(), 2);
    is("none are taken", told(0, THREE).surelyTaken(), 0);
  }

  // ---- promises 34 and 35: a doctor

  private static LowNumber doctor(int hits, int errs, int share) {
    return told(1, "a plain 1 1 1", "doctor hits " + hits + " errs " + errs + " share " + share);
  }

  private static void believed(int hits, int errs, int share, boolean says, int upper, int lower) {
    LowNumber x = doctor(hits, errs, share);
    part("believed by " + hits + " " + errs + " " + share, x.believed(says, false), x.believed(says, true), upper, lower);
    fine(x);
  }

  @Edge(promise = 34, says = "(0 by 1 if he never says that). -1: 1 (no DRAFT); 6 (no doctor).")
  static void aDoctorWhoNeverSaysThat() {
    LowNumber none = new LowNumber();
    refused(none, 1, () -> none.believed(true, true));
    LowNumber x = three();
    for (int i = 0; i < 4; i++) {
      boolean says = i % 2 == 0;
      boolean lower = i / 2 == 0;
      refused(x, 6, () -> x.believed(says, lower));
    }
    believed(0, 0, 50, true, 0, 1);
    believed(0, 99, 100, true, 0, 1);
    believed(99, 0, 0, true, 0, 1);
    believed(100, 100, 50, false, 0, 1);
    believed(100, 0, 100, false, 0, 1);
    believed(0, 100, 0, false, 0, 1);
  }

  @Edge(promise = 34, says = "of a hundred, share are lame; he says lame of a lame one by hits, of another one by errs in a hundred.")
  static void aDoctorAtTheBounds() {
    believed(100, 0, 50, true, 1, 1);
    believed(100, 0, 50, false, 0, 1);
    believed(0, 100, 50, true, 0, 1);
    believed(0, 100, 50, false, 1, 1);
    believed(1, 100, 1, true, 1, 9901);
    believed(99, 1, 99, false, 1, 2);
    believed(50, 50, 0, true, 0, 1);
    believed(50, 50, 100, true, 1, 1);
    believed(50, 50, 100, false, 1, 1);
    believed(100, 100, 100, true, 1, 1);
    believed(0, 0, 100, false, 1, 1);
    believed(0, 0, 0, false, 0, 1);
  }

  @Edge(promise = 35, says = "How likely he is wrong, likewise. -1: 1 (no DRAFT); 6.")
  static void aDoctorWhoIsWrong() {
    LowNumber none = new LowNumber();
    refused(none, 1, () -> none.wrong(true));
    LowNumber x = three();
    refused(x, 6, () -> x.wrong(true));
    refused(x, 6, () -> x.wrong(false));
    int[][] want = {{100, 0, 50, 0, 1}, {0, 100, 50, 1, 1}, {0, 0, 1, 1, 100}, {100, 100, 1, 99, 100}, {0, 7, 100, 1, 1}, {7, 100, 0, 1, 1},
      {100, 7, 100, 0, 1}, {7, 0, 0, 0, 1}, {99, 1, 99, 1, 100}, {100, 1, 99, 1, 10000}};
    for (int[] w : want) {
      LowNumber y = doctor(w[0], w[1], w[2]);
      part("wrong by " + Arrays.toString(w), y.wrong(false), y.wrong(true), w[3], w[4]);
      fine(y);
    }
  }

  // ---- promises 36 to 38: two agents

  @Edge(promise = 36, says = "by both's prices (0 .. 9) if so many (0 .. 99) would buy. -100: 1 (no DRAFT); 2.")
  static void agentsOutOfBounds() {
    LowNumber none = new LowNumber();
    refused(none, 1, -100, () -> none.agent(0, 0, 0, false));
    refused(none, 1, -100, () -> none.agent(-1, 10, 10, true));
    LowNumber x = three();
    for (int[] a : new int[][] {{0, 0, 0}, {99, 0, 0}, {0, 9, 0}, {0, 0, 9}, {99, 9, 9}}) {
      x.agent(a[0], a[1], a[2], false);
      fine(x);
    }
    for (int v : new int[] {-1, LEAST, MOST}) {
      refused(x, 2, -100, () -> x.agent(v, 0, 0, false));
      refused(x, 2, -100, () -> x.agent(0, v, 0, true));
      refused(x, 2, -100, () -> x.agent(0, 0, v, false));
    }
    refused(x, 2, -100, () -> x.agent(100, 0, 0, true));
    refused(x, 2, -100, () -> x.agent(0, 10, 0, false));
    refused(x, 2, -100, () -> x.agent(0, 0, 10, true));
  }

  @Edge(promise = 36, says = "each agent has three men: the cheaper one sells first, as many as he has, then the other one")
  static void theCheaperSellsFirst() {
    LowNumber x = three();
    int[] many = {0, 1, 2, 3, 4, 5, 6, 7, 99};
    int[] cheaper = {0, 1, 2, 3, 3, 3, 3, 3, 3};
    int[] dearer = {0, 0, 0, 0, 1, 2, 3, 3, 3};
    for (int i = 0; i < many.length; i++) {
      is("the one is cheaper", x.agent(many[i], 8, 9, false), 7 * cheaper[i]);
      is("the other one is dearer", x.agent(many[i], 8, 9, true), 8 * dearer[i]);
      is("the other one is cheaper", x.agent(many[i], 9, 8, true), 7 * cheaper[i]);
      is("the one is dearer", x.agent(many[i], 9, 8, false), 8 * dearer[i]);
    }
  }

  @Edge(promise = 36, says = "both to half (downwards), three at most, if alike; each has its price less 1 for each")
  static void agentsAlike() {
    LowNumber x = three();
    int[] many = {0, 1, 2, 3, 4, 5, 6, 7, 8, 99};
    int[] each = {0, 0, 1, 1, 2, 2, 3, 3, 3, 3};
    for (int i = 0; i < many.length; i++) {
      is("the one", x.agent(many[i], 9, 9, false), 8 * each[i]);
      is("the other one", x.agent(many[i], 9, 9, true), 8 * each[i]);
      is("for 1 each", x.agent(many[i], 1, 1, true), 0);
      is("for nothing", x.agent(many[i], 0, 0, false), -each[i]);
    }
    fine(x);
  }

  @Edge(promise = 37, says = "How many RESTS. NONE: 1 (no DRAFT); 2.")
  static void howManyRests() {
    LowNumber none = new LowNumber();
    refused(none, 1, () -> none.rests(0));
    refused(none, 1, () -> none.rests(100));
    LowNumber x = three();
    is("nobody buys: all", x.rests(0), 100);
    // one buys, half of one is none: 0 0, 1 1, 1 2, 2 1, 2 2, 2 3, 3 2
    is("one buys", x.rests(1), 7);
    is("no rest", x.rests(5), 0);
    is("each sells three", x.rests(6), 1);
    is("each sells three", x.rests(99), 1);
    fine(x);
    for (int many : new int[] {-1, 100, 101, LEAST, MOST}) refused(x, 2, () -> x.rests(many));
  }

  @Edge(promise = 38, says = "The first, by the one's price, then the other one's: 10 times and; -2. NONE: likewise.")
  static void theFirstRest() {
    LowNumber none = new LowNumber();
    refused(none, 1, () -> none.rest(0));
    refused(none, 1, () -> none.rest(-1));
    LowNumber x = three();
    is("nobody buys", x.rest(0), 0);
    is("one buys", x.rest(1), 0);
    is("no rest", x.rest(5), -2);
    fine(x);
    is("each sells three", x.rest(6), 99);
    is("each sells three", x.rest(99), 99);
    fine(x);
    for (int many : new int[] {-1, 100, 101, LEAST, MOST}) refused(x, 2, () -> x.rest(many));
  }

  // ---- promises 39 to 41: drafts by draws

  /** Of two men who can't pay the first of the row is taken. */
  private static LowNumber two() {
    return told(1, "a plain 5 0 9", "b plain 7 0 9");
  }

  @Edge(promise = 39, says = "n DRAFTS (1 .. 90) by a SEED (0 .. 65,536), SEED going on, coins as NOW at each: in how many one is TAKEN. NONE: 1; 2.")
  static void draftsOutOfBounds() {
    LowNumber none = new LowNumber();
    refused(none, 1, () -> none.drafts(0, 0, 1));
    LowNumber x = two();
    for (int[] a : new int[][] {{0, 1}, {65536, 1}, {0, 90}, {65536, 90}}) {
      is("one of two", x.drafts(0, a[0], a[1]) + x.drafts(1, a[0], a[1]), a[1]);
      fine(x);
    }
    for (int seed : new int[] {-1, 65537, LEAST, MOST}) refused(x, 2, () -> x.drafts(0, seed, 1));
    for (int n : new int[] {0, -1, 91, 92, LEAST, MOST}) refused(x, 2, () -> x.drafts(0, 0, n));
    LowNumber y = two();
    refusedOutside(y, 2, 1, m -> y.drafts(m, 0, 1));
    refused(y, 1, () -> y.drafts(2, -1, 0));
    is("SEED stays", y.size(6), 0);
    is("none held", y.size(5), 0);
  }

  @Edge(promise = 39, says = "(SEED becomes (75 times SEED and 74) mod 65,537)")
  static void seedsThatWrapAround() {
    LowNumber x = two();
    int[][] goesOn = {{0, 74}, {1, 149}, {872, 65474}, {873, 12}, {TO_ZERO, 0}, {TO_ONE, 1}, {65535, 65461}, {65536, 65536}};
    for (int[] g : goesOn) {
      x.seed(g[0]);
      int first = g[1] % 2 == 0 ? 1 : 0;
      is("taken by " + g[0], x.drafts(first, g[0], 1), 1);
      is("not taken by " + g[0], x.drafts(1 - first, g[0], 1), 0);
      is("hold by " + g[0], x.hold(), 1 << first);
      is("SEED behind " + g[0], x.size(6), g[1]);
    }
    // 25340 goes on to 1, that to 149, that to 11249, all odd
    is("SEED going on", x.drafts(0, TO_ONE, 3), 3);
    // 45438 goes on to 0, that to 74, that to 5624, all even
    is("SEED going on", x.drafts(1, TO_ZERO, 3), 3);
  }

  @Edge(promise = 39, says = "for i from the last down to the second: a DRAW mod i (i counted from 1): that one (from 0 on) and the i-th change places")
  static void rowsByDraws() {
    LowNumber one = told(1, "a plain 5 5 5");
    one.seed(7);
    one.hold();
    is("one man: no draw", one.size(6), 7);
    is("lot(0)", one.lot(0), 0);
    is("drafts", one.drafts(0, 7, 90), 90);
    // by seed 65536 each draw is 65536: mod 6, 5, 4, 3, 2 that is 4, 1, 0, 1, 0
    LowNumber x = six(1);
    x.seed(65536);
    x.hold();
    int[] row = {2, 3, 5, 0, 1, 4};
    for (int i = 0; i < 6; i++) is("lot " + i, x.lot(i), row[i]);
    is("SEED", x.size(6), 65536);
    // by seed 0 the draws are 74, 5624, 28652, 51790, 17641: mod 6, 5, 4, 3, 2 that is 2, 4, 0, 1, 1
    x.seed(0);
    x.hold();
    is("SEED behind five draws", x.size(6), 17641);
    int[] other = {3, 5, 1, 0, 4, 2};
    for (int i = 0; i < 6; i++) is("lot " + i, x.lot(i), other[i]);
  }

  @Edge(promise = 40, says = "In how many of them one is SENT. NONE: 1; 2.")
  static void sentInOutOfBounds() {
    LowNumber none = new LowNumber();
    refused(none, 1, () -> none.sentIn(0, 0, 1));
    // a has coins for one alone, as NOW at each
    LowNumber x = told(1, "a plain 9 2 9", "b married 1 0 2", "spares married");
    is("in one", x.sentIn(1, 0, 1), 1);
    is("in all", x.sentIn(1, 65536, 90), 90);
    is("never", x.sentIn(0, 0, 90), 0);
    fine(x);
    is("he has paid nothing", x.man(0, 2), 2);
    for (int seed : new int[] {-1, 65537, LEAST, MOST}) refused(x, 2, () -> x.sentIn(0, seed, 1));
    for (int n : new int[] {0, -1, 91, 92, LEAST, MOST}) refused(x, 2, () -> x.sentIn(0, 0, n));
    LowNumber y = two();
    refusedOutside(y, 2, 1, m -> y.sentIn(m, 0, 1));
    refused(y, 1, () -> y.sentIn(2, -1, 0));
  }

  @Edge(promise = 41, says = "LOSS of all in all of them. NONE: 1 (no DRAFT); 2.")
  static void lossInOutOfBounds() {
    LowNumber none = new LowNumber();
    refused(none, 1, () -> none.lossIn(0, 1));
    refused(none, 1, () -> none.lossIn(-1, 0));
    LowNumber x = two();
    is("b's worth", x.lossIn(TO_ZERO, 1), 7);
    is("a's worth", x.lossIn(TO_ONE, 1), 5);
    is("ninety times", x.lossIn(65536, 90), 630);
    fine(x);
    for (int seed : new int[] {-1, 65537, LEAST, MOST}) refused(x, 2, () -> x.lossIn(seed, 1));
    for (int n : new int[] {0, -1, 91, 92, LEAST, MOST}) refused(x, 2, () -> x.lossIn(0, n));
    is("coins as NOW", told(1, "a plain 9 2 9", "b married 1 0 2", "spares married").lossIn(0, 90), 180);
    is("all lose", told(5, "a plain 99 0 9", "b plain 99 0 9", "c plain 99 0 9", "d plain 99 0 9", "e plain 99 0 9").lossIn(3, 90), 44550);
    is("none lose", told(0, THREE).lossIn(3, 90), 0);
  }

  // ---- promises 42 to 48: acts

  @Edge(promise = 42, says = "MARRY: true; false: 1; 5 (he is).")
  static void marryOnce() {
    LowNumber none = new LowNumber();
    denied(none, 1, () -> none.marry(0));
    LowNumber x = told(1, "a plain 5 5 5", "b married 5 5 5", "c short 5 5 5", "d lame 5 5 5");
    denied(x, 5, () -> x.marry(1));
    int[] others = {0, 2, 3};
    for (int m : others) {
      is("marry", x.marry(m), true);
      fine(x);
      is("he is married NOW, whatever his sort", x.man(m, 0), 1);
      denied(x, 5, () -> x.marry(m));
    }
    is("three acts", x.size(7), 3);
    for (int m : new int[] {-1, 4, 5, 32, LEAST, MOST}) denied(x, 1, () -> x.marry(m));
  }

  @Edge(promise = 43, says = "SPARE a SORT, or not (not is): true; false: 1 (no DRAFT); 2 (0 .. 3); 5 (it is so).")
  static void spareOrNot() {
    LowNumber none = new LowNumber();
    denied(none, 1, () -> none.spare(0, true));
    denied(none, 1, () -> none.spare(4, true));
    LowNumber x = three();
    for (int s = 0; s < 4; s++) {
      int sort = s;
      denied(x, 5, () -> x.spare(sort, false));
      is("spare", x.spare(sort, true), true);
      fine(x);
      denied(x, 5, () -> x.spare(sort, true));
    }
    is("spared()", x.spared(), 15);
    for (int sort = 0; sort < 4; sort++) {
      is("spare no more", x.spare(sort, false), true);
      is("spared()", x.spared(), 15 - ((2 << sort) - 1));
    }
    is("acts", x.size(7), 8);
    LowNumber y = three();
    for (int sort : new int[] {-1, 4, 5, 32, LEAST, MOST}) {
      denied(y, 2, () -> y.spare(sort, true));
      denied(y, 2, () -> y.spare(sort, false));
    }
    is("spared()", y.spared(), 0);
  }

  @Edge(promise = 44, says = "HOLD: who GOES, as bits. NONE: 1 (no DRAFT).")
  static void holdAtTheEdge() {
    LowNumber none = new LowNumber();
    refused(none, 1, none::hold);
    LowNumber x = told(0, THREE);
    is("nobody goes", x.hold(), 0);
    fine(x);
    is("it is held", x.size(5), 1);
    is("it is an act", x.size(7), 1);
    is("led throws", ledThrows(x, 0), true);
    LowNumber y = told(5, THREE);
    is("all go", y.hold(), 7);
    LowNumber z = told(5, "a plain 9 0 9", "spares plain");
    is("all are spared", z.hold(), 0);
    for (int i = 0; i < 20; i++) z.hold();
    is("drafts held are all counted", z.size(5), 21);
    is("acts are kept to 16", z.size(7), 16);
  }

  @Edge(promise = 44, says = "who is TAKEN, SENT by it stays so till the next one; those who SEND pay at once")
  static void whoSendsPays() {
    LowNumber x = told(1, "a plain 9 5 9", "b married 1 0 2", "spares married");
    is("b goes", x.hold(), 2);
    is("a has paid", x.man(0, 2), 3);
    is("b has no more", x.man(1, 2), 0);
    x.spare(0, true);
    x.spare(1, false);
    x.marry(0);
    is("it stays so", x.fate(0), 2);
    is("it stays so", x.fate(1), 3);
    x.undo();
    x.undo();
    x.undo();
    is("b goes again", x.hold(), 2);
    is("a has paid again", x.man(0, 2), 1);
    is("a can't pay any more", x.hold(), 1);
    is("a hasn't paid", x.man(0, 2), 1);
    is("till the next one", x.fate(0), 1);
    is("till the next one", x.fate(1), 0);
    LowNumber y = told(1, "a plain 9 2 9", "b married 1 0 2", "spares married");
    y.hold();
    is("all his coins", y.man(0, 2), 0);
    LowNumber z = told(1, "a plain 9 0 9", "b married 1 0 0", "spares married");
    for (int i = 0; i < 3; i++) is("for nothing, as often as he likes", z.hold(), 2);
    is("no coins", z.man(0, 2), 0);
  }

  @Edge(promise = 44, says = "those who SEND pay at once")
  static void oddsByCoinsNow() {
    LowNumber x = told(1, "a plain 9 2 9", "b married 1 0 2", "spares married", "went b");
    part("loss ahead of it", x.loss(0, false), x.loss(0, true), 2, 1);
    part("harm ahead of it", x.harm(2, false), x.harm(2, true), 2, 1);
    is("rows ahead of it", x.rows(), 2);
    x.image();
    x.hold();
    part("loss, he can't pay", x.loss(0, false), x.loss(0, true), 9, 1);
    part("harm, he can't pay", x.harm(2, false), x.harm(2, true), 9, 1);
    is("rows, he can't pay", x.rows(), 0);
    is("wouldGo, he can't pay", x.wouldGo(0), -2);
    is("lossIn, he can't pay", x.lossIn(0, 10), 90);
    of(49);
    x.undo();
    part("loss as it was", x.loss(0, false), x.loss(0, true), 2, 1);
    part("harm as it was", x.harm(2, false), x.harm(2, true), 2, 1);
    is("rows as it was", x.rows(), 2);
    of(51);
    x.hold();
    part("loss behind it", x.loss(0, false), x.loss(0, true), 9, 1);
    is("fills(1)", x.fills(1), 1);
    is("fills(3)", x.fills(3), 0);
    x.back(0);
    part("loss by the image", x.loss(0, false), x.loss(0, true), 2, 1);
    part("harm by the image", x.harm(2, false), x.harm(2, true), 2, 1);
    of(42);
    x.marry(0);
    part("taken, married", x.taken(0, false), x.taken(0, true), 0, 1);
    is("fills(1), both married", x.fills(1), 1);
    is("fills(2), both married", x.fills(2), 0);
    of(43);
    x.spare(1, false);
    part("taken, spared no more", x.taken(0, false), x.taken(0, true), 1, 2);
  }

  @Edge(promise = 45, says = "DESERT: who goes now for himself. NONE: 1; 5 (he isn't SENT NOW).")
  static void desertIfSent() {
    LowNumber none = new LowNumber();
    refused(none, 1, () -> none.desert(0));
    LowNumber x = told(1, "a plain 9 5 9", "b married 1 0 2", "spares married");
    refused(x, 5, () -> x.desert(1));
    x.hold();
    refused(x, 5, () -> x.desert(0));
    refusedOutside(x, 2, 1, x::desert);
    is("desert(1)", x.desert(1), 0);
    fine(x);
    is("an act", x.size(7), 2);
    refused(x, 5, () -> x.desert(1));
    refused(x, 5, () -> x.desert(0));
    x.undo();
    is("desert(1) again", x.desert(1), 0);
    LowNumber y = told(1, "a married 1 0 2", "b plain 9 5 9", "spares married");
    y.hold();
    is("the other way round", y.desert(0), 1);
    read(y, ONE);
    refused(y, 5, () -> y.desert(0));
  }

  @Edge(promise = 45, says = "it is as if he for whom he went had sent none, the coins stay paid")
  static void asIfHeHadSentNone() {
    LowNumber x = told(2, "a plain 9 5 9", "b plain 9 5 9", "c married 1 0 2", "d married 1 0 3", "spares married");
    is("both are sent", x.hold(), 12);
    int sender = x.fate(0) == 2 ? x.desert(2) : -3;
    is("he goes himself", x.fate(sender), 1);
    is("c goes no more", x.fate(2), 0);
    is("d goes still", x.fate(3), 3);
    is("the other one sends still", x.fate(1 - sender), 2);
    is("the coins stay paid", x.man(0, 2) + x.man(1, 2), 5);
    is("led(0)", x.led(0), sender);
    is("led(1)", x.led(1), 3);
    is("d deserts too", x.desert(3), 1 - sender);
    is("both go", x.led(0) + 2 * x.led(1), 2);
    is("drafts held", x.size(5), 1);
    is("acts", x.size(7), 3);
  }

  @Edge(promise = 46, says = "0 nothing, or none was held, 1 he is TAKEN and GOES, 2 TAKEN and SENDS one, 3 SENT. NONE: 1.")
  static void fates() {
    LowNumber none = new LowNumber();
    refused(none, 1, () -> none.fate(0));
    LowNumber x = told(2, "a plain 9 5 9", "b lame 9 0 9", "c married 1 0 2", "d married 1 0 3", "spares married");
    for (int m = 0; m < 4; m++) is("none was held", x.fate(m), 0);
    fine(x);
    x.hold();
    int[] want = {2, 1, 3, 0};
    for (int m = 0; m < 4; m++) is("fate " + m, x.fate(m), want[m]);
    fine(x);
    refusedOutside(x, 4, 1, x::fate);
    x.undo();
    for (int m = 0; m < 4; m++) is("undone", x.fate(m), 0);
    LowNumber y = six(5);
    y.seed(65536);
    y.hold();
    // the last of the row 2 3 5 0 1 4 is left out
    for (int m = 0; m < 6; m++) is("of six " + m, y.fate(m), m == 4 ? 0 : 1);
  }

  @Edge(promise = 47, says = "The i-th of its ROW. NONE: 1 (none was held, too).")
  static void lots() {
    LowNumber none = new LowNumber();
    refused(none, 1, () -> none.lot(0));
    LowNumber x = three();
    for (int i = 0; i < 3; i++) {
      int at = i;
      refused(x, 1, () -> x.lot(at));
    }
    x.seed(65536);
    x.hold();
    int[] row = {2, 0, 1};
    for (int i = 0; i < 3; i++) is("lot " + i, x.lot(i), row[i]);
    fine(x);
    refusedOutside(x, 3, 1, x::lot);
    x.seed(1);
    x.hold();
    for (int i = 0; i < 3; i++) is("the next one's lot " + i, x.lot(i), i);
    x.image();
    x.undo();
    for (int i = 0; i < 3; i++) is("lot " + i + " as ahead of it", x.lot(i), row[i]);
    x.back(0);
    for (int i = 0; i < 3; i++) is("lot " + i + " by the image", x.lot(i), i);
    x.draft(0);
    x.hold();
    x.undo();
    for (int i = 0; i < 3; i++) is("lot " + i + " behind a draft with a fault", x.lot(i), i);
    read(x, ONE);
    refused(x, 1, () -> x.lot(0));
    LowNumber y = told(0, "a plain 1 1 1", "spares plain");
    y.hold();
    is("held, though none is taken", y.lot(0), 0);
  }

  @Edge(promise = 48, says = "SEED (no ACT): true; false: 1 (no DRAFT); 2 (0 .. 65,536).")
  static void seedsInBounds() {
    LowNumber none = new LowNumber();
    denied(none, 1, () -> none.seed(0));
    denied(none, 1, () -> none.seed(-1));
    LowNumber x = three();
    for (int v : new int[] {65536, 1, 0}) {
      is("seed", x.seed(v), true);
      fine(x);
      is("SEED", x.size(6), v);
      is("no act", x.size(7), 0);
    }
    x.seed(5);
    for (int v : new int[] {-1, -65536, 65537, 65538, LEAST, MOST}) denied(x, 2, () -> x.seed(v));
    is("SEED stays", x.size(6), 5);
    denied(x, 6, x::undo);
  }

  // ---- promises 49 to 51: undo, images

  @Edge(promise = 49, says = "UNDO: true; false: 6.")
  static void nothingToUndo() {
    LowNumber none = new LowNumber();
    denied(none, 6, none::undo);
    LowNumber x = three();
    denied(x, 6, x::undo);
    x.marry(0);
    is("undo", x.undo(), true);
    fine(x);
    denied(x, 6, x::undo);
    x.marry(9);
    x.spare(0, false);
    x.desert(0);
    x.image();
    x.seed(3);
    denied(x, 6, x::undo);
  }

  @Edge(promise = 49, says = "UNDO: all, SEED too, is as ahead of the latest (16 are kept).")
  static void sixteenAreKept() {
    for (int acts = 15; acts <= 18; acts++) {
      LowNumber x = three();
      for (int i = 1; i <= acts; i++) {
        x.seed(i);
        x.spare(0, i % 2 == 1);
      }
      x.seed(99);
      int kept = Math.min(acts, 16);
      is("kept of " + acts, x.size(7), kept);
      for (int i = 0; i < kept; i++) {
        is("undo", x.undo(), true);
        is("SEED as ahead of it", x.size(6), acts - i);
        is("spared as ahead of it", x.spared(), (acts - i - 1) % 2);
        is("left", x.size(7), kept - i - 1);
      }
      denied(x, 6, x::undo);
    }
  }

  @Edge(promise = 49, says = "all, SEED too, is as ahead of the latest")
  static void eachActIsUndone() {
    LowNumber x = told(1, "a plain 9 5 9", "b married 1 0 2", "spares married");
    x.seed(11);
    x.hold();
    x.desert(1);
    x.undo();
    is("desert", x.fate(1), 3);
    x.undo();
    is("hold: SEED", x.size(6), 11);
    is("hold: coins", x.man(0, 2), 5);
    is("hold: fate", x.fate(1), 0);
    is("hold: count", x.size(5), 0);
    x.marry(0);
    x.undo();
    is("marry", x.man(0, 0), 0);
    x.spare(1, false);
    x.undo();
    is("spare", x.spared(), 2);
    // behind undoing room is found again: more acts than are kept, undone by turns
    for (int i = 0; i < 40; i++) {
      x.marry(0);
      x.hold();
      x.undo();
      x.undo();
    }
    is("marry", x.man(0, 0), 0);
    denied(x, 6, x::undo);
  }

  @Edge(promise = 50, says = "An IMAGE: its number. NONE: 1 (no DRAFT); 3.")
  static void imagesUpToThree() {
    LowNumber none = new LowNumber();
    refused(none, 1, none::image);
    LowNumber x = three();
    for (int i = 0; i < 3; i++) {
      is("image", x.image(), i);
      fine(x);
      is("images", x.size(8), i + 1);
    }
    refused(x, 3, x::image);
    refused(x, 3, x::image);
    is("no act", x.size(7), 0);
    x.back(1);
    refused(x, 3, x::image);
    x.marry(0);
    x.undo();
    refused(x, 3, x::image);
    read(x, ONE);
    is("a new draft has room", x.image(), 0);
  }

  @Edge(promise = 51, says = "All is as by an IMAGE (all IMAGES stay): true; false: 1.")
  static void backToAnImage() {
    LowNumber none = new LowNumber();
    denied(none, 1, () -> none.back(0));
    LowNumber x = three();
    denied(x, 1, () -> x.back(0));
    x.image();
    x.seed(1);
    x.hold();
    x.image();
    denied(x, 1, () -> x.back(2));
    x.marry(0);
    x.image();
    for (int image : new int[] {-1, 3, 4, 32, LEAST, MOST}) denied(x, 1, () -> x.back(image));
    for (int turn = 0; turn < 2; turn++) {
      is("back(0)", x.back(0), true);
      fine(x);
      is("SEED", x.size(6), 0);
      is("held", x.size(5), 0);
      is("coins", x.man(0, 2), 9);
      is("back(2)", x.back(2), true);
      is("married", x.man(0, 0), 1);
      is("back(1)", x.back(1), true);
      is("not married", x.man(0, 0), 0);
      is("fate", x.fate(1), 3);
      is("images stay", x.size(8), 3);
    }
  }

  @Edge(promise = 51, says = "IMAGES: up to 3; gone back to one, nothing can be undone.")
  static void nothingUndoneBehindBack() {
    LowNumber x = three();
    x.marry(0);
    x.image();
    x.marry(1);
    denied(x, 1, () -> x.back(1));
    is("a refused one leaves acts", x.size(7), 2);
    is("back", x.back(0), true);
    is("acts", x.size(7), 0);
    denied(x, 6, x::undo);
    x.marry(2);
    is("acts behind it can be", x.undo(), true);
    is("but they alone", x.undo(), false);
    is("as by the image", x.man(0, 0), 1);
  }

  // ---- promises 52 to 54: what is told

  @Edge(promise = 52, says = "The i-th man, by numbers, who GOES by the DRAFT held latest. NoSuchElementException if there is none such.")
  static void ledOrThrows() {
    LowNumber x = new LowNumber();
    for (int i : new int[] {0, -1, 1, LEAST, MOST}) is("no draft", ledThrows(x, i), true);
    read(x, text(3, "a plain 1 0 9", "b married 1 0 9", "c lame 1 0 9", "spares married"));
    for (int i = -1; i < 4; i++) is("none held", ledThrows(x, i), true);
    x.spare(9, true);
    x.hold();
    is("led(0)", x.led(0), 0);
    is("led(1)", x.led(1), 2);
    for (int i : new int[] {-1, 2, 3, 6, 32, LEAST, MOST}) is("led " + i + " throws", ledThrows(x, i), true);
    x.undo();
    is("undone", ledThrows(x, 0), true);
    LowNumber y = six(5);
    y.seed(65536);
    y.hold();
    // by numbers, not by the row
    int behind = -1;
    for (int i = 0; i < 5; i++) {
      is("by numbers", y.led(i) > behind, true);
      behind = y.led(i);
    }
    is("led(5) throws", ledThrows(y, 5), true);
    LowNumber z = told(0, THREE);
    z.hold();
    is("nobody goes", ledThrows(z, 0), true);
  }

  @Edge(promise = 53, says = "NONE for others; 0 for what there isn't.")
  static void sizesAndOthers() {
    for (LowNumber x : new LowNumber[] {new LowNumber(), three()}) {
      for (int what : new int[] {-1, 10, 11, 32, LEAST, MOST}) is("size " + what, x.size(what), -1);
    }
    LowNumber empty = new LowNumber();
    for (int what = 0; what < 10; what++) is("no draft " + what, empty.size(what), 0);
    empty.feed(0, 0, 0, 0, 0);
    is("bytes without a draft", empty.size(9), 20);
    LowNumber x = three();
    int[] want = {1, 3, 0, 0, 0, 0, 0, 0, 0, 0};
    for (int what = 0; what < 10; what++) is("size " + what, x.size(what), want[what]);
  }

  @Edge(promise = 53, says = "0 takes, 1 men, 2 kin, 3 1 if there is a doctor, 4 who went, how many, 5 drafts held, 6 SEED, 7 ACTS that can be undone, 8 IMAGES, 9 bytes of THE TAPE.")
  static void fullSizes() {
    LowNumber x = told(5, sixLines("kin a b", "kin a c", "kin a d", "kin a e", "kin a f", "kin b c", "doctor hits 1 errs 1 share 1", "went a", "went b", "went c"));
    for (int i = 0; i < 17; i++) x.hold();
    for (int i = 0; i < 3; i++) x.image();
    for (int i = 0; i < 41; i++) x.feed(0, 0, 0, 0, 0);
    x.seed(65536);
    int[] want = {5, 6, 6, 1, 3, 17, 65536, 16, 3, 800};
    for (int what = 0; what < 10; what++) is("size " + what, x.size(what), want[what]);
  }

  @Edge(promise = 54, says = "0 it wasn't; 1 there is none such; 2 a number; 3 no room; 4 a FAULT; 5 not so; 6 there is none.")
  static void eachTrouble() {
    LowNumber x = new LowNumber();
    is("new", x.trouble(), 0);
    x.hold();
    is("1", x.trouble(), 1);
    x.draft(1);
    is("2", x.trouble(), 2);
    x.draft(0);
    is("4", x.trouble(), 4);
    x.undo();
    is("6", x.trouble(), 6);
    read(x, ONE);
    is("0", x.trouble(), 0);
    x.spare(0, false);
    is("5", x.trouble(), 5);
    x.image();
    x.image();
    x.image();
    is("0", x.trouble(), 0);
    x.image();
    is("3", x.trouble(), 3);
    is("3 still", x.trouble(), 3);
    x.wrong(true);
    is("6", x.trouble(), 6);
    x.seed(1);
    is("0", x.trouble(), 0);
  }

  @Edge(promise = 54, says = "TROUBLE of the latest call that may be refused (those of which a number is told here)")
  static void callsThatLeaveTrouble() {
    LowNumber x = three();
    x.many(7);
    for (int i = 0; i < 41; i++) {
      x.feed(0, 0, 0, 0, 0);
      is("feed", x.trouble(), 2);
    }
    x.fault();
    x.where();
    x.size(0);
    x.size(77);
    ledThrows(x, 0);
    is("fault, where, size, led", x.trouble(), 2);
    x.hold();
    x.led(0);
    fine(x);
    x.many(7);
    x.led(0);
    is("led", x.trouble(), 2);
  }

  /** Each call that isn't refused clears what a call before it left. */
  @Edge(promise = 54, says = "0 it wasn't;")
  static void eachCallClearsTrouble() {
    LowNumber x = told(1, "a plain 9 5 9", "b married 1 0 2", "spares married", "doctor hits 1 errs 1 share 1", "went b");
    List<LongSupplier> calls = List.of(() -> x.man(0, 0), x::spared, () -> x.many(0), () -> x.wouldGo(0), () -> x.wouldGo(1),
        () -> x.takenBy(1), () -> x.goesBy(1), () -> x.sendsBy(1, 0), () -> x.sendsBy(1, 1), () -> x.lossBy(1, 0), () -> x.firstTaken(0),
        () -> x.firstTaken(1), () -> x.taken(0, true), () -> x.taken(1, false), () -> x.goes(0, true), () -> x.goesFor(1, 0, true),
        () -> x.loss(0, true), () -> x.club(3, true), () -> x.ruin(3, 0, true), () -> x.toJoin(0), () -> x.toJoin(3), () -> x.shortOf(true),
        () -> x.ifMarried(0, true), () -> x.harm(0, true), () -> x.fills(0), x::bestLaw, x::toSpare, x::rows, () -> x.could(0),
        () -> x.surely(0), x::ask, x::askLeaves, x::surelyTaken, () -> x.believed(true, true), () -> x.wrong(true),
        () -> x.agent(0, 0, 0, true), () -> x.rests(0), () -> x.rest(0), () -> x.rest(5),
        () -> x.drafts(0, 0, 1), () -> x.sentIn(0, 0, 1), () -> x.lossIn(0, 1),
        () -> x.marry(0) ? 1 : 0, () -> x.undo() ? 1 : 0, () -> x.spare(0, true) ? 1 : 0, () -> x.spare(0, false) ? 1 : 0, x::hold,
        () -> x.desert(1), () -> x.fate(0), () -> x.fate(1), () -> x.lot(0), () -> x.seed(1) ? 1 : 0, x::image, () -> x.back(0) ? 1 : 0, () -> read(x, ONE));
    for (LongSupplier call : calls) {
      x.many(7);
      call.getAsLong();
      fine(x);
    }
  }
}
