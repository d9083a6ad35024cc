import java.util.NoSuchElementException;

/** Each promise of the document by answers that were worked out by hand: ordinary ones, edges, refusals. */
public final class LowNumberPromises {
  private static int wrong = 0;
  private static int asked = 0;
  private static int promise = 0;

  /** Three men: b goes for a and c alike, c is lame, b can't pay for a. */
  private static final String THREE = "draft takes 1;man a plain worth 10 coins 9 asks 3;"
      + "man b plain worth 8 coins 2 asks 2;man c lame worth 7 coins 7 asks 0";
  private static final String TWO = "draft takes 2;man a plain worth 5 coins 5 asks 5;man b lame worth 5 coins 5 asks 5";

  public static void main(String[] args) {
    newObject();
    tape();
    drafts();
    faults();
    now();
    rows();
    odds();
    moreOdds();
    laws();
    went();
    doctor();
    agents();
    draws();
    marryAndSpare();
    holdAndDesert();
    undo();
    images();
    told();
    draftsInTurn();
    afterActs();
    sixMen();
    System.out.println(asked + " answers, " + wrong + " are not as due");
    if (wrong != 0) System.exit(1);
  }

  private static void promise(int number) {
    promise = number;
  }

  private static void is(String call, long got, long want) {
    asked++;
    if (got != want) {
      wrong++;
      System.out.println("promise " + promise + ": " + call + " answered " + got + ", due is " + want);
    }
  }

  private static void is(String call, boolean got, boolean want) {
    is(call, got ? 1 : 0, want ? 1 : 0);
  }

  private static void trouble(LowNumber x, int want) {
    is("trouble()", x.trouble(), want);
  }

  private static void refused(LowNumber x, String call, long got, int why) {
    is(call, got, -1);
    trouble(x, why);
  }

  private static void denied(LowNumber x, String call, boolean got, int why) {
    is(call, got, false);
    trouble(x, why);
  }

  private static void part(String call, long upper, long lower, long wantUpper, long wantLower) {
    is(call + " upper", upper, wantUpper);
    is(call + " lower", lower, wantLower);
  }

  private static boolean ledThrows(LowNumber x, int i) {
    try {
      x.led(i);
      return false;
    } catch (NoSuchElementException e) {
      return true;
    }
  }

  private static int feedText(LowNumber x, String text) {
    StringBuilder s = new StringBuilder(text);
    while (s.length() % 20 != 0) s.append(' ');
    int size = x.size(9);
    for (int i = 0; i < s.length(); i += 20) {
      size = x.feed(four(s, i), four(s, i + 4), four(s, i + 8), four(s, i + 12), four(s, i + 16));
    }
    return size;
  }

  private static int four(CharSequence s, int at) {
    return s.charAt(at) << 24 | s.charAt(at + 1) << 16 | s.charAt(at + 2) << 8 | s.charAt(at + 3);
  }

  private static int draft(LowNumber x, String text) {
    feedText(x, text);
    return x.draft(text.length());
  }

  private static LowNumber with(String text) {
    LowNumber x = new LowNumber();
    int before = promise;
    promise(3);
    is("draft of " + text, x.draft(0), -1);
    is("draft of " + text + " has men", draft(x, text) > 0, true);
    promise(before);
    return x;
  }

  private static void newObject() {
    LowNumber x = new LowNumber();
    promise(54);
    trouble(x, 0);
    promise(1);
    is("fault()", x.fault(), 0);
    is("where()", x.where(), -1);
    for (int what = 0; what <= 9; what++) is("size", x.size(what), 0);
    refused(x, "man", x.man(0, 0), 1);
    refused(x, "spared", x.spared(), 1);
    refused(x, "many", x.many(9), 1);
    refused(x, "wouldGo", x.wouldGo(0), 1);
    refused(x, "takenBy", x.takenBy(0), 1);
    refused(x, "goesBy", x.goesBy(0), 1);
    refused(x, "sendsBy", x.sendsBy(0, 0), 1);
    refused(x, "lossBy", x.lossBy(0, 0), 1);
    refused(x, "firstTaken", x.firstTaken(0), 1);
    refused(x, "taken", x.taken(0, true), 1);
    refused(x, "goes", x.goes(0, true), 1);
    refused(x, "goesFor", x.goesFor(0, 1, true), 1);
    refused(x, "loss", x.loss(0, true), 1);
    refused(x, "club", x.club(1, true), 1);
    refused(x, "ruin", x.ruin(1, -1, true), 1);
    refused(x, "toJoin", x.toJoin(0), 1);
    refused(x, "shortOf", x.shortOf(true), 1);
    refused(x, "ifMarried", x.ifMarried(0, true), 1);
    refused(x, "harm", x.harm(16, true), 1);
    refused(x, "fills", x.fills(16), 1);
    refused(x, "bestLaw", x.bestLaw(), 1);
    refused(x, "toSpare", x.toSpare(), 1);
    refused(x, "rows", x.rows(), 1);
    refused(x, "could", x.could(0), 1);
    refused(x, "surely", x.surely(0), 1);
    refused(x, "ask", x.ask(), 1);
    refused(x, "askLeaves", x.askLeaves(), 1);
    refused(x, "surelyTaken", x.surelyTaken(), 1);
    refused(x, "believed", x.believed(true, true), 1);
    refused(x, "wrong", x.wrong(true), 1);
    x.undo();
    is("agent", x.agent(100, 0, 0, true), -100);
    trouble(x, 1);
    refused(x, "rests", x.rests(100), 1);
    refused(x, "rest", x.rest(100), 1);
    refused(x, "drafts", x.drafts(0, -1, 0), 1);
    refused(x, "sentIn", x.sentIn(0, -1, 0), 1);
    refused(x, "lossIn", x.lossIn(-1, 0), 1);
    denied(x, "marry", x.marry(0), 1);
    denied(x, "spare", x.spare(4, true), 1);
    refused(x, "hold", x.hold(), 1);
    refused(x, "desert", x.desert(0), 1);
    refused(x, "fate", x.fate(0), 1);
    refused(x, "lot", x.lot(0), 1);
    denied(x, "seed", x.seed(-1), 1);
    denied(x, "undo", x.undo(), 6);
    refused(x, "image", x.image(), 1);
    denied(x, "back", x.back(0), 1);
    is("led throws", ledThrows(x, 0), true);
  }

  private static void tape() {
    promise(2);
    LowNumber x = new LowNumber();
    x.undo();
    for (int i = 1; i <= 40; i++) is("feed", x.feed(0x20202020, 0x20202020, 0x20202020, 0x20202020, 0x20202020), 20 * i);
    is("feed beyond 800", x.feed(1, 1, 1, 1, 1), -1);
    is("size(9)", x.size(9), 800);
    trouble(x, 6);
    refused(x, "draft(801)", x.draft(801), 2);
    is("size(9)", x.size(9), 800);
    refused(x, "draft(800)", x.draft(800), 4);
    is("where()", x.where(), 800);
    is("size(9)", x.size(9), 0);
    // the highest byte first; bytes above 127 begin no token
    is("feed", x.feed(0x64726166, 0x74207461, 0x6b657320, 0x323bff20, 0x20202020), 20);
    is("draft", x.draft(16), -1);
    is("fault", x.fault(), 1);
    is("where", x.where(), 14);
  }

  private static void drafts() {
    promise(3);
    LowNumber x = new LowNumber();
    feedText(x, THREE);
    int size = x.size(9);
    refused(x, "draft(-1)", x.draft(-1), 2);
    refused(x, "draft too long", x.draft(size + 1), 2);
    is("tape stays", x.size(9), size);
    is("draft", x.draft(THREE.length()), 3);
    trouble(x, 0);
    is("tape is empty", x.size(9), 0);
    feedText(x, THREE + "9;spares lame");
    is("the first bytes alone", x.draft(THREE.length()), 3);
    is("asks", x.man(2, 3), 0);
    is("spared", x.spared(), 0);
    x.seed(7);
    x.hold();
    x.marry(0);
    x.image();
    refused(x, "a text with a fault", draft(x, "draft takes 9"), 4);
    is("the tape is empty", x.size(9), 0);
    is("the draft stays", x.size(1), 3);
    is("acts stay", x.size(7), 2);
    is("images stay", x.size(8), 1);
    is("fault", x.fault(), 4);
    is("the same anew", draft(x, THREE), 3);
    is("held", x.size(5), 0);
    is("seed", x.size(6), 0);
    is("acts", x.size(7), 0);
    is("images", x.size(8), 0);
    is("sort", x.man(0, 0), 0);
    is("fate", x.fate(1), 0);
    is("led throws", ledThrows(x, 0), true);
    denied(x, "undo", x.undo(), 6);
    denied(x, "back", x.back(0), 1);
    refused(x, "lot", x.lot(0), 1);

    promise(4);
    is("fault", x.fault(), 0);
    draft(x, "draft takes 9");
    x.draft(1000);
    is("refused by 2", x.fault(), 4);
    x.spared();
    is("another call", x.fault(), 4);

    promise(5);
    draft(x, "draft takes 9");
    is("where", x.where(), 12);
    feedText(x, "draft");
    x.size(3);
    x.fault();
    is("calls that can't be refused between", x.where(), 12);
    x.spared();
    is("a call that can be", x.where(), -1);
    draft(x, "draft takes 9");
    x.draft(900);
    is("refused by 2", x.where(), -1);
  }

  private static void fault(String text, int number, int place) {
    LowNumber x = new LowNumber();
    is("draft of '" + text + "'", draft(x, text), -1);
    is("fault of '" + text + "'", x.fault(), number);
    is("where of '" + text + "'", x.where(), place);
  }

  private static void good(String text, int men) {
    LowNumber x = new LowNumber();
    is("draft of '" + text + "'", draft(x, text), men);
  }

  private static void faults() {
    promise(3);
    String a = "draft takes 2;man a plain worth 5 coins 5 asks 5";
    int end = a.length();
    good(a, 1);
    good("  draft   takes 2 ; man a plain worth 5 coins 5 asks 5  ", 1);
    good("draft takes2;man a plain worth5coins5asks5", 1);
    good("draft takes 005;man abcdefgh lame worth 99 coins 200 asks 099", 1);
    good(a + ";man worth short worth 0 coins 0 asks 0;man takes lame worth 0 coins 0 asks 0;kin worth takes", 3);
    good(a + ";spares lame;spares plain;spares married;spares short;doctor hits 0 errs 100 share 100", 1);
    fault("", 1, 0);
    fault("   ", 1, 3);
    fault("x", 1, 0);
    fault("7", 1, 0);
    fault(";", 1, 0);
    fault("Draft", 1, 0);
    fault("draft\ttakes", 1, 5);
    fault("drafts", 1, 0);
    fault("draft takes", 1, 11);
    fault("draft takes x", 1, 12);
    fault("draft takes 2;", 1, 14);
    fault("draft takes 2;;", 1, 14);
    fault("draft takes 2 man", 1, 14);
    fault("draft takes 0002", 1, 12);
    fault("draft takes 1000", 1, 12);
    fault("draft take 2", 1, 6);
    fault("draft takes 2;man abcdefghi", 1, 18);
    fault("draft takes 2;man 7", 1, 18);
    fault("draft takes 2;man man", 1, 18);
    fault("draft takes 2;man kin", 1, 18);
    fault("draft takes 2;man doctor", 1, 18);
    fault("draft takes 2;man draft", 1, 18);
    fault("draft takes 2;man spares", 1, 18);
    fault("draft takes 2;man a tall", 1, 20);
    fault("draft takes 2;man a plain coins", 1, 26);
    fault(a + " ;", 1, end + 2);
    fault(a + "@", 1, end);
    fault(a + (char) 0, 1, end);
    fault(a + ";can", 1, end + 1);
    fault(a + ";pin a a", 1, end + 1);
    fault(a + ";kin a", 1, end + 6);
    fault(a + ";kin a;", 1, end + 6);
    fault(a + ";kin went", 1, end + 5);
    fault(a + ";spares a", 1, end + 8);
    fault(a + ";doctor errs", 1, end + 8);
    fault(a + ";went 3", 1, end + 6);
    fault(a + ";went", 1, end + 5);
    fault(a + ";kin b a", 2, end + 5);
    fault(a + ";kin a b", 2, end + 7);
    fault(a + ";went b;man b", 2, end + 6);
    fault(a + ";man a", 3, end + 5);
    fault(a + ";kin a a", 3, end + 7);
    fault(TWO + ";kin a b;kin b a", 3, TWO.length() + 15);
    fault(TWO + ";kin a b;kin a b", 3, TWO.length() + 15);
    fault(a + ";spares lame;spares lame", 3, end + 20);
    fault(a + ";went a;went a", 3, end + 13);
    fault(a + ";draft takes 9", 3, end + 1);
    fault(a + ";doctor hits 1 errs 1 share 1;doctor", 3, end + 30);
    fault("draft takes 6", 4, 12);
    fault("draft takes 2;man a plain worth 100", 4, 32);
    fault("draft takes 2;man a plain worth 99 coins 201", 4, 41);
    fault("draft takes 2;man a plain worth 99 coins 200 asks 100", 4, 50);
    fault(a + ";doctor hits 101", 4, end + 13);
    fault(a + ";doctor hits 1 errs 101", 4, end + 20);
    fault(a + ";doctor hits 1 errs 1 share 101", 4, end + 28);
    StringBuilder s = new StringBuilder("draft takes 5");
    for (char c = 'a'; c <= 'f'; c++) s.append(";man ").append(c).append(" plain worth 9 coins 9 asks 9");
    good(s.toString(), 6);
    fault(s + ";man a", 5, s.length() + 1);
    fault(s + ";went a;went b;went c;went a", 5, s.length() + 22);
    String six = s + ";kin a b;kin a c;kin a d;kin a e;kin a f;kin b c";
    good(six, 6);
    fault(six + ";kin a b", 5, six.length() + 1);
    fault("man a plain worth 5 coins 5 asks 5;draft takes 2", 6, 0);
    fault(" kin", 6, 1);
    fault("spares odd", 6, 0);
    fault("doctor", 6, 0);
    fault("went", 6, 0);
    fault("draft takes 2", 6, 13);
    fault("draft takes 2;spares lame  ", 6, 27);
  }

  private static void now() {
    promise(6);
    LowNumber x = with(THREE + ";kin a b;kin a c;spares lame");
    int[][] want = {{0, 10, 9, 3, 6, 0}, {0, 8, 2, 2, 1, 0}, {3, 7, 7, 0, 1, 1}};
    for (int m = 0; m < 3; m++) for (int what = 0; what < 6; what++) is("man " + m + " " + what, x.man(m, what), want[m][what]);
    trouble(x, 0);
    refused(x, "man(3, 0)", x.man(3, 0), 1);
    refused(x, "man(-1, 0)", x.man(-1, 0), 1);
    refused(x, "man(0, 6)", x.man(0, 6), 1);
    refused(x, "man(0, -1)", x.man(0, -1), 1);
    promise(7);
    is("spared", x.spared(), 8);
    trouble(x, 0);
    x.spare(0, true);
    is("spared", x.spared(), 9);
    promise(8);
    is("many(0)", x.many(0), 2);
    is("many(1)", x.many(1), 0);
    is("many(3)", x.many(3), 1);
    x.marry(2);
    is("many(1) with one married", x.many(1), 1);
    is("many(3) with none left", x.many(3), 0);
    refused(x, "many(4)", x.many(4), 2);
    refused(x, "many(-1)", x.many(-1), 2);
    promise(9);
    x = with(THREE);
    is("wouldGo(0)", x.wouldGo(0), 1);
    is("wouldGo(1)", x.wouldGo(1), -2);
    trouble(x, 0);
    is("wouldGo(2)", x.wouldGo(2), 1);
    refused(x, "wouldGo(3)", x.wouldGo(3), 1);
    refused(x, "wouldGo(-1)", x.wouldGo(-1), 1);
    x.marry(2);
    is("who is lame no more goes", x.wouldGo(0), 2);
    x = with("draft takes 1;man a plain worth 5 coins 9 asks 0;man b plain worth 9 coins 5 asks 5;man c short worth 9 coins 4 asks 5");
    is("a price like the worth", x.wouldGo(0), -2);
    is("a price like the coins", x.wouldGo(1), 0);
    is("not himself", x.wouldGo(2), 0);
    x = with("draft takes 1;man a plain worth 6 coins 5 asks 0;man b plain worth 9 coins 5 asks 5;man c short worth 9 coins 4 asks 5");
    is("of like ones the first", x.wouldGo(0), 1);
  }

  private static void rows() {
    LowNumber x = with("draft takes 2;man a plain worth 20 coins 9 asks 3;man b plain worth 8 coins 9 asks 2;"
        + "man c lame worth 7 coins 7 asks 0;man d married worth 9 coins 9 asks 5;kin a b;spares married");
    // a is taken, b spared as his kin, c taken, d spared by the law; a sends b, c sends d
    promise(10);
    is("takenBy(123)", x.takenBy(123), 5);
    is("takenBy(3210)", x.takenBy(3210), 6);
    is("takenBy(1032)", x.takenBy(1032), 6);
    trouble(x, 0);
    refused(x, "takenBy(122)", x.takenBy(122), 2);
    refused(x, "takenBy(124)", x.takenBy(124), 2);
    refused(x, "takenBy(10123)", x.takenBy(10123), 2);
    refused(x, "takenBy(-123)", x.takenBy(-123), 2);
    refused(x, "takenBy(least)", x.takenBy(Integer.MIN_VALUE), 2);
    refused(x, "takenBy(most)", x.takenBy(Integer.MAX_VALUE), 2);
    promise(11);
    is("goesBy(123)", x.goesBy(123), 10);
    is("goesBy(3210)", x.goesBy(3210), 9);
    refused(x, "goesBy(122)", x.goesBy(122), 2);
    promise(12);
    is("sendsBy(123, 0)", x.sendsBy(123, 0), 1);
    is("sendsBy(123, 2)", x.sendsBy(123, 2), 3);
    is("sendsBy(123, 1)", x.sendsBy(123, 1), -2);
    trouble(x, 0);
    // c is ahead of b: he sends the cheaper a, and b sends d
    is("sendsBy(2130, 2)", x.sendsBy(2130, 2), 0);
    is("sendsBy(2130, 1)", x.sendsBy(2130, 1), 3);
    is("sendsBy(1230, 1)", x.sendsBy(1230, 1), 0);
    is("sendsBy(1230, 2)", x.sendsBy(1230, 2), 3);
    refused(x, "sendsBy(123, 4)", x.sendsBy(123, 4), 1);
    refused(x, "sendsBy(5, 4)", x.sendsBy(5, 4), 1);
    refused(x, "sendsBy(5, 0)", x.sendsBy(5, 0), 2);
    promise(13);
    is("lossBy(123, 0)", x.lossBy(123, 0), 2);
    is("lossBy(123, 1)", x.lossBy(123, 1), 0);
    is("lossBy(123, 2)", x.lossBy(123, 2), 5);
    refused(x, "lossBy(123, -1)", x.lossBy(123, -1), 1);
    refused(x, "lossBy(5, 0)", x.lossBy(5, 0), 2);
    LowNumber y = with(THREE);
    is("lossBy his worth", y.lossBy(102, 1), 8);
    promise(14);
    is("firstTaken(0)", x.firstTaken(0), 123);
    is("firstTaken(1)", x.firstTaken(1), 1023);
    is("firstTaken(2)", x.firstTaken(2), 123);
    is("firstTaken(3)", x.firstTaken(3), -2);
    trouble(x, 0);
    refused(x, "firstTaken(4)", x.firstTaken(4), 1);
    is("firstTaken(2) of three", y.firstTaken(2), 201);
    is("firstTaken(1) of three", y.firstTaken(1), 102);
  }

  private static void odds() {
    LowNumber x = with(THREE);
    promise(15);
    for (int m = 0; m < 3; m++) part("taken", x.taken(m, false), x.taken(m, true), 1, 3);
    trouble(x, 0);
    refused(x, "taken(3)", x.taken(3, false), 1);
    promise(16);
    part("goes(0)", x.goes(0, false), x.goes(0, true), 0, 1);
    part("goes(1)", x.goes(1, false), x.goes(1, true), 1, 1);
    refused(x, "goes(-1)", x.goes(-1, false), 1);
    promise(17);
    part("goesFor(1, 0)", x.goesFor(1, 0, false), x.goesFor(1, 0, true), 1, 3);
    part("goesFor(1, 2)", x.goesFor(1, 2, false), x.goesFor(1, 2, true), 1, 3);
    part("goesFor(0, 1)", x.goesFor(0, 1, false), x.goesFor(0, 1, true), 0, 1);
    refused(x, "goesFor(1, 1)", x.goesFor(1, 1, false), 1);
    refused(x, "goesFor(1, 3)", x.goesFor(1, 3, false), 1);
    refused(x, "goesFor(-1, 1)", x.goesFor(-1, 1, false), 1);
    promise(18);
    part("loss(0)", x.loss(0, false), x.loss(0, true), 2, 3);
    part("loss(1)", x.loss(1, false), x.loss(1, true), 8, 3);
    refused(x, "loss(3)", x.loss(3, true), 1);
    promise(19);
    part("club(3)", x.club(3, false), x.club(3, true), 5, 3);
    part("club(7)", x.club(7, false), x.club(7, true), 4, 3);
    part("club(4)", x.club(4, false), x.club(4, true), 2, 3);
    refused(x, "club(0)", x.club(0, true), 1);
    refused(x, "club(8)", x.club(8, true), 1);
    refused(x, "club(-1)", x.club(-1, true), 1);
    promise(20);
    part("ruin(3, 2)", x.ruin(3, 2, false), x.ruin(3, 2, true), 1, 3);
    part("ruin(3, 1)", x.ruin(3, 1, false), x.ruin(3, 1, true), 2, 3);
    part("ruin(7, 1)", x.ruin(7, 1, false), x.ruin(7, 1, true), 1, 1);
    part("ruin(7, 8)", x.ruin(7, 8, false), x.ruin(7, 8, true), 0, 1);
    part("ruin(7, 999)", x.ruin(7, 999, false), x.ruin(7, 999, true), 0, 1);
    part("ruin(1, 0)", x.ruin(1, 0, false), x.ruin(1, 0, true), 1, 3);
    x.undo();
    is("ruin", x.ruin(1, 0, true), 3);
    trouble(x, 0);
    refused(x, "ruin(7, 1000)", x.ruin(7, 1000, true), 2);
    refused(x, "ruin(7, -1)", x.ruin(7, -1, true), 2);
    refused(x, "ruin(0, 1000)", x.ruin(0, 1000, true), 1);
    refused(x, "ruin(8, 0)", x.ruin(8, 0, true), 1);
    promise(21);
    is("toJoin(0)", x.toJoin(0), 0);
    is("toJoin(1)", x.toJoin(1), 2);
    is("toJoin(5)", x.toJoin(5), 1);
    is("toJoin(7)", x.toJoin(7), -2);
    trouble(x, 0);
    refused(x, "toJoin(8)", x.toJoin(8), 1);
    refused(x, "toJoin(-1)", x.toJoin(-1), 1);
  }

  private static void moreOdds() {
    promise(22);
    LowNumber x = with(THREE);
    part("shortOf", x.shortOf(false), x.shortOf(true), 0, 1);
    trouble(x, 0);
    // two of three, a and b kin: c is always taken, so the draft is always filled; without c never
    x = with("draft takes 2;man a plain worth 1 coins 1 asks 1;man b plain worth 1 coins 1 asks 1;man c lame worth 1 coins 1 asks 1;kin a b");
    part("shortOf with kin", x.shortOf(false), x.shortOf(true), 0, 1);
    x.spare(3, true);
    part("shortOf without c", x.shortOf(false), x.shortOf(true), 1, 1);
    // two of three, b kin of both others: short if b is first
    x = with("draft takes 2;man a plain worth 1 coins 1 asks 1;man b plain worth 1 coins 1 asks 1;man c lame worth 1 coins 1 asks 1;kin a b;kin c b");
    part("shortOf by b", x.shortOf(false), x.shortOf(true), 1, 3);
    promise(23);
    x = with(THREE);
    part("ifMarried unspared", x.ifMarried(1, false), x.ifMarried(1, true), 8, 3);
    x.spare(3, true);
    part("the lame one spared", x.loss(2, false), x.loss(2, true), 0, 1);
    part("were he married", x.ifMarried(2, false), x.ifMarried(2, true), 2, 3);
    is("he isn't", x.man(2, 0), 3);
    is("no act", x.size(7), 1);
    x.spare(1, true);
    part("ifMarried spared", x.ifMarried(0, false), x.ifMarried(0, true), 0, 1);
    part("he isn't", x.loss(0, false), x.loss(0, true), 1, 1);
    refused(x, "ifMarried(3)", x.ifMarried(3, true), 1);
  }

  private static void laws() {
    LowNumber x = with(THREE);
    promise(24);
    part("harm(0)", x.harm(0, false), x.harm(0, true), 4, 1);
    part("harm(1)", x.harm(1, false), x.harm(1, true), 2, 1);
    part("harm(8)", x.harm(8, false), x.harm(8, true), 5, 1);
    part("harm(9)", x.harm(9, false), x.harm(9, true), 0, 1);
    trouble(x, 0);
    refused(x, "harm(16)", x.harm(16, true), 2);
    refused(x, "harm(-1)", x.harm(-1, true), 2);
    promise(25);
    is("fills(0)", x.fills(0), 1);
    is("fills(1)", x.fills(1), 1);
    is("fills(9)", x.fills(9), 0);
    trouble(x, 0);
    refused(x, "fills(16)", x.fills(16), 2);
    refused(x, "fills(-1)", x.fills(-1), 2);
    promise(26);
    is("bestLaw", x.bestLaw(), 1);
    trouble(x, 0);
    x.spare(0, true);
    is("bestLaw, whatever law is NOW", x.bestLaw(), 1);
    x.undo();
    LowNumber y = with("draft takes 2;man a plain worth 1 coins 1 asks 1");
    is("bestLaw of none", y.bestLaw(), -2);
    trouble(y, 0);
    y = with("draft takes 1;man a short worth 9 coins 0 asks 1;man b married worth 9 coins 0 asks 1;man c lame worth 5 coins 0 asks 1");
    is("to spare both short and married", y.bestLaw(), 6);
    promise(27);
    is("toSpare", x.toSpare(), 0);
    x.spare(0, true);
    is("toSpare, not as many taken", x.toSpare(), 3);
    x.spare(3, true);
    is("toSpare of like ones", x.toSpare(), 1);
    x.spare(1, true);
    is("toSpare the last", x.toSpare(), 2);
    x.spare(2, true);
    is("toSpare none left", x.toSpare(), -2);
    trouble(x, 0);
    promise(24);
    x = with(THREE);
    x.harm(0, true);
    x.seed(1);
    x.hold();
    x.hold();
    x.hold();
    part("harm with coins as NOW", x.harm(0, false), x.harm(0, true), seedHarmUpper(x), seedHarmLower(x));
  }

  /** The harm by law 0 again, of all rows one by one. */
  private static long seedHarm(LowNumber x) {
    long sum = 0;
    for (int row : new int[] {12, 21, 102, 120, 201, 210}) for (int m = 0; m < 3; m++) sum += x.lossBy(row, m);
    return sum;
  }

  private static long seedHarmUpper(LowNumber x) {
    return seedHarm(x) / gcd(seedHarm(x), 6);
  }

  private static long seedHarmLower(LowNumber x) {
    return 6 / gcd(seedHarm(x), 6);
  }

  private static long gcd(long a, long b) {
    return b == 0 ? a : gcd(b, a % b);
  }

  private static void went() {
    LowNumber x = with(THREE + ";went b");
    promise(28);
    is("rows", x.rows(), 4);
    trouble(x, 0);
    is("rows, nobody told", with(THREE).rows(), 6);
    promise(29);
    is("could(0)", x.could(0), 5);
    trouble(x, 0);
    refused(x, "could(1)", x.could(1), 1);
    refused(x, "could(-1)", x.could(-1), 1);
    promise(30);
    is("surely(0)", x.surely(0), -2);
    trouble(x, 0);
    refused(x, "surely(1)", x.surely(1), 1);
    promise(31);
    is("ask", x.ask(), 0);
    promise(32);
    is("askLeaves", x.askLeaves(), 2);
    promise(33);
    is("surelyTaken", x.surelyTaken(), 0);
    x.spare(3, true);
    promise(28);
    // a or b is first of the two that are left: by three rows a sends b
    is("rows", x.rows(), 3);
    promise(29);
    is("could(0)", x.could(0), 1);
    promise(30);
    is("surely(0)", x.surely(0), 0);
    promise(32);
    is("askLeaves", x.askLeaves(), 3);
    promise(33);
    is("surelyTaken", x.surelyTaken(), 1);
    // a, b and c taken, or others; d goes for a alone, e for whoever of a, b is ahead
    x = with("draft takes 2;man a plain worth 9 coins 9 asks 9;man b plain worth 9 coins 3 asks 9;man c lame worth 9 coins 9 asks 9;"
        + "man d married worth 9 coins 9 asks 5;man e married worth 9 coins 9 asks 2;spares married;spares lame;went e;went d");
    promise(28);
    // b ahead of a: b sends e, a sends d; a ahead of b: a sends e, b goes
    is("rows", x.rows(), 60);
    promise(30);
    is("surely(0)", x.surely(0), 1);
    is("surely(1)", x.surely(1), 0);
    promise(31);
    is("ask the first of like ones", x.ask(), 0);
    promise(33);
    is("surelyTaken", x.surelyTaken(), 3);
    // e is sent by whoever is first, d by the one behind: of three takers two; each is asked alike or better
    x = with("draft takes 2;man a plain worth 9 coins 9 asks 9;man b plain worth 9 coins 3 asks 9;man c plain worth 9 coins 9 asks 9;"
        + "man d married worth 9 coins 9 asks 5;man e married worth 9 coins 9 asks 2;spares married;went d;went e");
    // takers by order ab: a-e, b goes; ac: a-e c-d; ba: b-e a-d; bc: b-e c-d; ca: c-e a-d; cb: c-e; 20 rows each
    promise(28);
    is("rows", x.rows(), 80);
    promise(29);
    is("could(0)", x.could(0), 5);
    is("could(1)", x.could(1), 7);
    promise(31);
    // d: a 40, c 40; e: a 20, b 40, c 20: both leave 40 at most
    is("ask", x.ask(), 0);
    promise(32);
    is("askLeaves", x.askLeaves(), 40);
    promise(31);
    // of three who send, the first told is sent for b or c, the second for each by a third
    x = with("draft takes 1;man a plain worth 9 coins 9 asks 9;man b plain worth 9 coins 9 asks 9;man c plain worth 9 coins 9 asks 9;"
        + "man d married worth 1 coins 9 asks 2;spares married;went d");
    is("ask", x.ask(), 0);
    promise(32);
    is("askLeaves a third", x.askLeaves(), 8);
    promise(31);
    // c asks 1 and goes for whoever is first, d for the second; b can pay but 1
    x = with("draft takes 2;man a plain worth 9 coins 9 asks 9;man b plain worth 9 coins 1 asks 9;man c married worth 1 coins 0 asks 1;"
        + "man d married worth 9 coins 9 asks 5;man e plain worth 9 coins 9 asks 9;man f plain worth 9 coins 1 asks 9;spares married;went d;went c");
    // by pairs of a b e f in order; d is sent for the second if he is a or e: 6 pairs of 12, 60 rows each
    promise(28);
    is("rows", x.rows(), 360);
    promise(29);
    is("could(0)", x.could(0), 17);
    is("could(1)", x.could(1), 51);
    promise(31);
    // d: a 180, e 180; c: a 60, b 120, e 60, f 120
    is("ask the second", x.ask(), 1);
    promise(32);
    is("askLeaves", x.askLeaves(), 120);
    x = with(THREE + ";went c");
    promise(28);
    is("a lame one never goes for another", x.rows(), 0);
    promise(29);
    is("could", x.could(0), 0);
    promise(30);
    is("surely", x.surely(0), -2);
    promise(31);
    is("ask", x.ask(), -2);
    trouble(x, 0);
    promise(32);
    is("askLeaves", x.askLeaves(), -2);
    trouble(x, 0);
    promise(33);
    is("surelyTaken", x.surelyTaken(), 0);
    trouble(x, 0);
    x = with(THREE);
    promise(31);
    is("ask nobody told", x.ask(), -2);
    promise(32);
    is("askLeaves nobody told", x.askLeaves(), -2);
  }

  private static void doctor() {
    promise(34);
    LowNumber x = with(THREE + ";doctor hits 90 errs 20 share 10");
    // of 10,000: 900 lame ones said so, 100 not; 1,800 others said so, 7,200 not
    part("believed", x.believed(true, false), x.believed(true, true), 1, 3);
    part("not", x.believed(false, false), x.believed(false, true), 1, 73);
    trouble(x, 0);
    promise(35);
    part("wrong", x.wrong(false), x.wrong(true), 19, 100);
    promise(34);
    x = with(THREE + ";doctor hits 0 errs 0 share 50");
    part("never says so", x.believed(true, false), x.believed(true, true), 0, 1);
    part("always says not", x.believed(false, false), x.believed(false, true), 1, 2);
    x = with(THREE + ";doctor hits 100 errs 0 share 100");
    part("always right", x.believed(true, false), x.believed(true, true), 1, 1);
    part("never says not", x.believed(false, false), x.believed(false, true), 0, 1);
    promise(35);
    part("never wrong", x.wrong(false), x.wrong(true), 0, 1);
    x = with(THREE + ";doctor hits 0 errs 100 share 7");
    part("always wrong", x.wrong(false), x.wrong(true), 1, 1);
    x = with(THREE);
    promise(34);
    refused(x, "no doctor", x.believed(true, false), 6);
    promise(35);
    refused(x, "no doctor", x.wrong(false), 6);
  }

  private static void agents() {
    LowNumber x = with(THREE);
    promise(36);
    is("the cheaper sells three", x.agent(5, 4, 6, false), 9);
    is("the other two", x.agent(5, 4, 6, true), 10);
    is("the cheaper other one", x.agent(5, 6, 4, true), 9);
    is("the dearer one", x.agent(5, 6, 4, false), 10);
    is("alike", x.agent(5, 4, 4, true), 6);
    is("alike, three at most", x.agent(99, 4, 4, true), 9);
    is("nothing left", x.agent(3, 4, 6, true), 0);
    is("at a loss", x.agent(3, 0, 6, false), -3);
    is("at a loss of one", x.agent(1, 0, 6, false), -1);
    trouble(x, 0);
    is("nobody buys", x.agent(0, 9, 9, false), 0);
    is("the other one at a loss", x.agent(2, 6, 0, true), -2);
    is("none left for the one", x.agent(2, 6, 0, false), 0);
    int[][] bad = {{-1, 0, 0}, {100, 0, 0}, {0, -1, 0}, {0, 10, 0}, {0, 0, -1}, {0, 0, 10}};
    for (int[] b : bad) {
      is("agent", x.agent(b[0], b[1], b[2], false), -100);
      trouble(x, 2);
    }
    promise(37);
    // nobody buys: all is alike
    is("rests(0)", x.rests(0), 100);
    // one buys, half of one is none: 0 0, 1 1, 1 2, 2 1, 2 2, 2 3, 3 2
    is("rests(1)", x.rests(1), 7);
    // six buy: each sells three whatever he asks, so both ask 9
    is("rests(6)", x.rests(6), 1);
    is("rests(99)", x.rests(99), 1);
    is("rests(5)", x.rests(5), 0);
    trouble(x, 0);
    refused(x, "rests(-1)", x.rests(-1), 2);
    refused(x, "rests(100)", x.rests(100), 2);
    promise(38);
    is("rest(0)", x.rest(0), 0);
    is("rest(1)", x.rest(1), 0);
    is("rest(6)", x.rest(6), 99);
    is("rest(5)", x.rest(5), -2);
    trouble(x, 0);
    refused(x, "rest(-1)", x.rest(-1), 2);
    refused(x, "rest(100)", x.rest(100), 2);
  }

  private static void draws() {
    LowNumber x = with(THREE);
    // by seed 0: b, b, a, c are first
    promise(39);
    int[] want = {1, 2, 1};
    for (int m = 0; m < 3; m++) is("drafts " + m, x.drafts(m, 0, 4), want[m]);
    trouble(x, 0);
    is("one draft", x.drafts(1, 0, 1), 1);
    is("a seed that stays", x.drafts(2, 65536, 90), 90);
    refused(x, "drafts(3)", x.drafts(3, -1, 0), 1);
    refused(x, "seed -1", x.drafts(0, -1, 1), 2);
    refused(x, "seed 65537", x.drafts(0, 65537, 1), 2);
    refused(x, "none", x.drafts(0, 0, 0), 2);
    refused(x, "91", x.drafts(0, 0, 91), 2);
    promise(40);
    is("sentIn(1)", x.sentIn(1, 0, 4), 2);
    is("sentIn(0)", x.sentIn(0, 0, 4), 0);
    trouble(x, 0);
    is("coins as NOW at each", x.sentIn(1, 65536, 90), 90);
    refused(x, "sentIn(-1)", x.sentIn(-1, 0, 1), 1);
    refused(x, "seed", x.sentIn(0, 65537, 1), 2);
    refused(x, "91", x.sentIn(0, 0, 91), 2);
    promise(41);
    is("lossIn", x.lossIn(0, 4), 20);
    trouble(x, 0);
    is("lossIn", x.lossIn(65536, 90), 180);
    refused(x, "seed", x.lossIn(-1, 1), 2);
    refused(x, "0", x.lossIn(0, 0), 2);
    refused(x, "91", x.lossIn(0, 91), 2);
    is("SEED stays", x.size(6), 0);
    is("none held", x.size(5), 0);
  }

  private static void marryAndSpare() {
    LowNumber x = with(THREE);
    promise(42);
    is("marry", x.marry(2), true);
    trouble(x, 0);
    is("sort", x.man(2, 0), 1);
    is("he goes now, lame no more", x.goesBy(12), 4);
    denied(x, "marry again", x.marry(2), 5);
    denied(x, "marry(3)", x.marry(3), 1);
    denied(x, "marry(-1)", x.marry(-1), 1);
    is("acts", x.size(7), 1);
    promise(43);
    is("spare", x.spare(1, true), true);
    trouble(x, 0);
    is("spared", x.spared(), 2);
    is("man spared", x.man(2, 5), 1);
    part("taken", x.taken(2, false), x.taken(2, true), 0, 1);
    denied(x, "spare again", x.spare(1, true), 5);
    denied(x, "not spare what isn't", x.spare(0, false), 5);
    is("spare no more", x.spare(1, false), true);
    is("spared", x.spared(), 0);
    denied(x, "spare(4)", x.spare(4, true), 2);
    denied(x, "spare(-1)", x.spare(-1, false), 2);
    is("acts", x.size(7), 3);
  }

  private static void holdAndDesert() {
    LowNumber x = with(THREE);
    promise(48);
    is("seed", x.seed(1), true);
    trouble(x, 0);
    is("SEED", x.size(6), 1);
    is("no act", x.size(7), 0);
    denied(x, "seed(-1)", x.seed(-1), 2);
    denied(x, "seed(65537)", x.seed(65537), 2);
    is("seed(65536)", x.seed(65536), true);
    x.seed(1);
    promise(46);
    is("fate, none held", x.fate(1), 0);
    promise(44);
    // by seed 1 the row is 0 1 2: a is taken and sends b
    is("hold", x.hold(), 2);
    trouble(x, 0);
    is("SEED goes on", x.size(6), 11249);
    is("held", x.size(5), 1);
    is("he pays", x.man(0, 2), 7);
    is("who is paid has no more", x.man(1, 2), 2);
    is("an act", x.size(7), 1);
    promise(46);
    is("fate(0)", x.fate(0), 2);
    is("fate(1)", x.fate(1), 3);
    is("fate(2)", x.fate(2), 0);
    trouble(x, 0);
    refused(x, "fate(3)", x.fate(3), 1);
    refused(x, "fate(-1)", x.fate(-1), 1);
    promise(47);
    for (int i = 0; i < 3; i++) is("lot", x.lot(i), i);
    trouble(x, 0);
    refused(x, "lot(3)", x.lot(3), 1);
    refused(x, "lot(-1)", x.lot(-1), 1);
    promise(52);
    is("led(0)", x.led(0), 1);
    is("led(1) throws", ledThrows(x, 1), true);
    is("led(-1) throws", ledThrows(x, -1), true);
    promise(45);
    refused(x, "desert(0)", x.desert(0), 5);
    refused(x, "desert(2)", x.desert(2), 5);
    refused(x, "desert(3)", x.desert(3), 1);
    refused(x, "desert(-1)", x.desert(-1), 1);
    is("desert(1)", x.desert(1), 0);
    trouble(x, 0);
    is("the coins stay paid", x.man(0, 2), 7);
    is("acts", x.size(7), 2);
    is("held", x.size(5), 1);
    promise(46);
    is("he goes himself", x.fate(0), 1);
    is("who deserted", x.fate(1), 0);
    promise(52);
    is("led(0)", x.led(0), 0);
    promise(45);
    refused(x, "desert again", x.desert(1), 5);
    promise(44);
    x.seed(1);
    is("held anew, b may go again", x.hold(), 2);
    is("he pays again", x.man(0, 2), 5);
    is("fate(1)", x.fate(1), 3);
    x.seed(1);
    x.hold();
    x.seed(1);
    x.hold();
    is("coins", x.man(0, 2), 1);
    x.seed(1);
    is("he can't pay now", x.hold(), 1);
    is("coins", x.man(0, 2), 1);
    is("fate(0)", x.fate(0), 1);
    promise(52);
    x = with("draft takes 3;man a plain worth 1 coins 0 asks 9;man b married worth 1 coins 0 asks 9;man c lame worth 1 coins 0 asks 9;spares married");
    is("two go of three", x.hold(), 5);
    is("led(0)", x.led(0), 0);
    is("led(1)", x.led(1), 2);
    is("led(2) throws", ledThrows(x, 2), true);
  }

  private static void undo() {
    promise(49);
    LowNumber x = with(THREE);
    denied(x, "undo", x.undo(), 6);
    x.seed(1);
    x.hold();
    x.seed(5);
    is("undo hold", x.undo(), true);
    trouble(x, 0);
    is("SEED too", x.size(6), 1);
    is("held", x.size(5), 0);
    is("coins", x.man(0, 2), 9);
    is("fate", x.fate(0), 0);
    refused(x, "lot", x.lot(0), 1);
    is("led throws", ledThrows(x, 0), true);
    x.hold();
    x.desert(1);
    x.undo();
    is("undo desert", x.fate(1), 3);
    is("led", x.led(0), 1);
    x.marry(2);
    x.spare(1, true);
    part("taken", x.taken(2, false), x.taken(2, true), 0, 1);
    is("harm", x.harm(8, true) > 0, true);
    x.undo();
    is("undo spare", x.spared(), 0);
    part("taken", x.taken(2, false), x.taken(2, true), 1, 3);
    x.undo();
    is("undo marry", x.man(2, 0), 3);
    is("acts", x.size(7), 1);
    x = with(THREE);
    for (int i = 0; i < 20; i++) {
      is("spare", x.spare(i % 2, i / 2 % 2 == 0), true);
      is("acts", x.size(7), Math.min(i + 1, 16));
    }
    for (int i = 16; i > 0; i--) {
      is("acts", x.size(7), i);
      is("undo", x.undo(), true);
    }
    denied(x, "undo the seventeenth", x.undo(), 6);
    // behind the first four acts plain and married are spared no more
    is("as behind the first four", x.spared(), 0);
    x = with(THREE);
    for (int i = 0; i < 18; i++) x.spare(i % 2, i / 2 % 2 == 0);
    for (int i = 0; i < 16; i++) x.undo();
    is("as behind the first two", x.spared(), 3);
  }

  private static void images() {
    promise(50);
    LowNumber x = with(THREE);
    is("image", x.image(), 0);
    trouble(x, 0);
    x.seed(1);
    x.hold();
    is("image", x.image(), 1);
    is("no act", x.size(7), 1);
    is("images", x.size(8), 2);
    x.marry(1);
    x.spare(0, true);
    is("image", x.image(), 2);
    refused(x, "image", x.image(), 3);
    promise(51);
    denied(x, "back(3)", x.back(3), 1);
    denied(x, "back(-1)", x.back(-1), 1);
    is("acts", x.size(7), 3);
    is("back(1)", x.back(1), true);
    trouble(x, 0);
    is("nothing to undo", x.size(7), 0);
    denied(x, "undo", x.undo(), 6);
    is("images stay", x.size(8), 3);
    is("sort", x.man(1, 0), 0);
    is("spared", x.spared(), 0);
    is("held", x.size(5), 1);
    is("SEED", x.size(6), 11249);
    is("fate", x.fate(1), 3);
    is("coins", x.man(0, 2), 7);
    is("lot", x.lot(0), 0);
    x.marry(0);
    is("back(0)", x.back(0), true);
    is("SEED", x.size(6), 0);
    is("held", x.size(5), 0);
    is("coins", x.man(0, 2), 9);
    is("back(2)", x.back(2), true);
    is("sort", x.man(1, 0), 1);
    is("spared", x.spared(), 1);
    part("taken", x.taken(0, false), x.taken(0, true), 0, 1);
    x.marry(0);
    x.back(2);
    is("an image isn't changed by acts", x.man(0, 0), 0);
    x = with(THREE);
    x.marry(0);
    x.image();
    x.undo();
    promise(49);
    is("images stay when an act is undone", x.size(8), 1);
    promise(51);
    denied(x, "back(1), not made", x.back(1), 1);
    is("back(0)", x.back(0), true);
    is("sort", x.man(0, 0), 1);
  }

  private static void told() {
    promise(53);
    LowNumber x = with(THREE + ";kin a b;kin b c;doctor hits 1 errs 1 share 1;went a;went b;went c");
    x.seed(3);
    x.hold();
    x.hold();
    x.marry(0);
    x.image();
    x.image();
    feedText(x, "draft");
    long[] want = {1, 3, 2, 1, 3, 2, x.size(6), 3, 2, 20};
    for (int what = 0; what < 10; what++) is("size " + what, x.size(what), want[what]);
    is("size(10)", x.size(10), -1);
    is("size(-1)", x.size(-1), -1);
    is("no doctor", with(THREE).size(3), 0);
    promise(54);
    x.spare(9, true);
    x.size(10);
    x.fault();
    x.where();
    x.feed(0, 0, 0, 0, 0);
    ledThrows(x, 9);
    trouble(x, 2);
    trouble(x, 2);
    x.spared();
    trouble(x, 0);
    x = with(THREE);
    x.spare(9, true);
    for (int i = 0; i < 41; i++) x.feed(0, 0, 0, 0, 0);
    trouble(x, 2);
  }

  /** A text leaves nothing of those read before it, good ones or not. */
  private static void draftsInTurn() {
    promise(3);
    LowNumber x = new LowNumber();
    String full = THREE + ";kin a b;kin a c;spares lame;doctor hits 1 errs 1 share 1;went a;went b";
    for (int turn = 0; turn < 3; turn++) {
      is("full", draft(x, full), 3);
      is("kin", x.size(2), 2);
      is("kin of a", x.man(0, 4), 6);
      is("one man", draft(x, "draft takes 0;man z short worth 1 coins 2 asks 3"), 1);
      is("takes", x.size(0), 0);
      is("kin", x.size(2), 0);
      is("doctor", x.size(3), 0);
      is("went", x.size(4), 0);
      is("kin of z", x.man(0, 4), 0);
      is("spared", x.spared(), 0);
      is("rows", x.rows(), 1);
      refused(x, "could", x.could(0), 1);
      part("taken", x.taken(0, false), x.taken(0, true), 0, 1);
      refused(x, "a text with a fault", draft(x, full + ";man"), 4);
      is("the draft stays", x.man(0, 0), 2);
    }
    is("a row of one man", x.takenBy(0), 0);
    trouble(x, 0);
  }

  /** What was worked out ahead of an act isn't told behind it. */
  private static void afterActs() {
    LowNumber x = with(THREE);
    promise(42);
    part("loss(0)", x.loss(0, false), x.loss(0, true), 2, 3);
    x.marry(2);
    // c asks 0, and goes for a
    part("loss(0) with c to be had", x.loss(0, false), x.loss(0, true), 0, 1);
    promise(49);
    part("harm(2)", x.harm(2, false), x.harm(2, true), 0, 1);
    x.undo();
    part("loss(0) as it was", x.loss(0, false), x.loss(0, true), 2, 3);
    part("harm(2) as it was", x.harm(2, false), x.harm(2, true), 4, 1);
    is("fills(9)", x.fills(9), 0);
    x.marry(2);
    is("fills(9), he is lame no more", x.fills(9), 1);
    x.undo();
    is("fills(9)", x.fills(9), 0);
    promise(51);
    x.image();
    x.spare(0, true);
    part("taken(2)", x.taken(2, false), x.taken(2, true), 1, 1);
    x.back(0);
    part("taken(2)", x.taken(2, false), x.taken(2, true), 1, 3);
    promise(44);
    for (int i = 0; i < 4; i++) {
      x.seed(1);
      x.hold();
      x.loss(0, true);
    }
    // a has 1 coin left: he can't pay b any more
    part("loss(0)", x.loss(0, false), x.loss(0, true), 10, 3);
    promise(27);
    is("toSpare without a call of harm ahead", with(THREE).toSpare(), 0);
    is("toSpare the short one", with("draft takes 1;man a plain worth 5 coins 0 asks 1;man b short worth 9 coins 0 asks 1").toSpare(), 2);
    promise(25);
    is("fills without a call of harm ahead", with(THREE).fills(0), 1);
    promise(26);
    is("bestLaw where nobody loses", with("draft takes 0;man a plain worth 9 coins 9 asks 9").bestLaw(), 0);
    promise(47);
    x = with(THREE);
    x.seed(65536);
    x.hold();
    is("lot(0)", x.lot(0), 2);
    is("lot(1)", x.lot(1), 0);
    is("lot(2)", x.lot(2), 1);
    x.seed(1);
    x.hold();
    is("lot(0)", x.lot(0), 0);
    x.undo();
    is("lot(0) as it was", x.lot(0), 2);
    promise(44);
    x = with("draft takes 1;man a married worth 9 coins 9 asks 2;man b plain worth 8 coins 7 asks 3;spares married;went a");
    is("man 0 goes for the other one", x.hold(), 1);
    is("he pays", x.man(1, 2), 5);
    is("fate(1)", x.fate(1), 2);
    is("fate(0)", x.fate(0), 3);
    is("led(0)", x.led(0), 0);
    promise(13);
    is("lossBy(10, 1)", x.lossBy(10, 1), 2);
    promise(16);
    part("goes(1)", x.goes(1, false), x.goes(1, true), 0, 1);
    promise(18);
    part("loss(1)", x.loss(1, false), x.loss(1, true), 2, 1);
    promise(29);
    is("could(0)", x.could(0), 2);
    promise(45);
    is("desert(0)", x.desert(0), 1);
  }

  private static void sixMen() {
    StringBuilder s = new StringBuilder("draft takes 5");
    for (char c = 'a'; c <= 'f'; c++) s.append(";man ").append(c).append(" plain worth ").append(c - 'a' + 1).append(" coins 0 asks 1");
    LowNumber x = with(s.toString());
    promise(15);
    part("taken(5)", x.taken(5, false), x.taken(5, true), 5, 6);
    promise(18);
    part("loss(5)", x.loss(5, false), x.loss(5, true), 5, 1);
    promise(24);
    part("harm(0)", x.harm(0, false), x.harm(0, true), 35, 2);
    promise(20);
    // who is left out loses nothing: 21 less his worth
    part("ruin(63, 17)", x.ruin(63, 17, false), x.ruin(63, 17, true), 1, 2);
    promise(28);
    is("rows", x.rows(), 720);
    promise(14);
    is("firstTaken(5)", x.firstTaken(5), 12354);
    is("firstTaken(4)", x.firstTaken(4), 12345);
    promise(22);
    part("shortOf", x.shortOf(false), x.shortOf(true), 0, 1);
    promise(15);
    x = with(s.toString().replace("takes 5", "takes 1"));
    part("taken(5)", x.taken(5, false), x.taken(5, true), 1, 6);
    x = with(s.toString().replace("takes 5", "takes 1").replace(";man f plain", ";man f lame") + ";spares lame");
    part("taken(4)", x.taken(4, false), x.taken(4, true), 1, 5);
    promise(33);
    // of two rows but one fits: b ahead of a
    x = with("draft takes 1;man a plain worth 1 coins 1 asks 1;man b plain worth 9 coins 9 asks 1;went a");
    is("surelyTaken", x.surelyTaken(), 2);
    promise(28);
    is("rows", x.rows(), 1);
    promise(29);
    is("could(0)", x.could(0), 2);
    promise(30);
    is("surely(0)", x.surely(0), 1);
    promise(31);
    is("ask()", x.ask(), 0);
    promise(32);
    is("askLeaves()", x.askLeaves(), 1);
  }
}
