import java.lang.reflect.Constructor;
import java.lang.reflect.Field;
import java.lang.reflect.Method;
import java.lang.reflect.Modifier;
import java.nio.file.Files;
import java.nio.file.Path;
import java.util.List;
import java.util.Set;
import java.util.TreeSet;
import java.util.regex.Matcher;
import java.util.regex.Pattern;

/** The face of the document by reflection, and rules of LANGUAGE.md that the file's text shows. */
public final class LowNumberFace {
  private static int wrong = 0;

  /** The face as the document lists it: answer, name, types. */
  private static final String FACE = "int feed(int,int,int,int,int);int draft(int);int fault();int where();int man(int,int);"
      + "int spared();int many(int);int wouldGo(int);int takenBy(int);int goesBy(int);int sendsBy(int,int);int lossBy(int,int);"
      + "int firstTaken(int);long taken(int,boolean);long goes(int,boolean);long goesFor(int,int,boolean);long loss(int,boolean);"
      + "long club(int,boolean);long ruin(int,int,boolean);int toJoin(int);long shortOf(boolean);long ifMarried(int,boolean);"
      + "long harm(int,boolean);int fills(int);int bestLaw();int toSpare();int rows();int could(int);int surely(int);int ask();"
      + "int askLeaves();int surelyTaken();long believed(boolean,boolean);long wrong(boolean);int agent(int,int,int,boolean);"
      + "int rests(int);int rest(int);int drafts(int,int,int);int sentIn(int,int,int);int lossIn(int,int);boolean marry(int);"
      + "boolean spare(int,boolean);int hold();int desert(int);int fate(int);int lot(int);boolean seed(int);boolean undo();"
      + "int image();boolean back(int);int led(int);int size(int);int trouble()";

  public static void main(String[] args) throws Exception {
    face();
    names();
    text();
    extremes();
    System.out.println(wrong == 0 ? "the face and the text keep to the rules" : wrong + " rules are broken");
    if (wrong != 0) System.exit(1);
  }

  private static void rule(boolean holds, String what) {
    if (!holds) {
      wrong++;
      System.out.println(what);
    }
  }

  private static void face() throws Exception {
    Set<String> want = new TreeSet<>(List.of(FACE.split(";")));
    Set<String> got = new TreeSet<>();
    for (Method m : LowNumber.class.getDeclaredMethods()) {
      if (Modifier.isPublic(m.getModifiers())) {
        StringBuilder types = new StringBuilder();
        for (Class<?> t : m.getParameterTypes()) types.append(types.length() == 0 ? "" : ",").append(t);
        got.add(m.getReturnType() + " " + m.getName() + "(" + types + ")");
      } else {
        rule(Modifier.isPrivate(m.getModifiers()), "neither public nor private: " + m);
      }
    }
    rule(want.equals(got), "the face is " + got + ", due is " + want);
    rule(Modifier.isFinal(LowNumber.class.getModifiers()), "the class isn't final");
    Constructor<?>[] made = LowNumber.class.getDeclaredConstructors();
    rule(made.length == 1 && Modifier.isPublic(made[0].getModifiers()) && made[0].getParameterCount() == 0, "constructors");
    for (Field f : LowNumber.class.getDeclaredFields()) {
      rule(Modifier.isPrivate(f.getModifiers()) || f.getName().equals("NONE"), "a field that isn't private: " + f);
    }
    Field none = LowNumber.class.getDeclaredField("NONE");
    rule(none.getInt(null) == -1 && Modifier.isPublic(none.getModifiers()) && Modifier.isFinal(none.getModifiers()), "NONE");
  }

  private static void names() {
    Set<String> face = new TreeSet<>();
    for (String s : FACE.split(";")) face.add(s.substring(s.indexOf(' ') + 1, s.indexOf('(')));
    Class<?>[] inside = LowNumber.class.getDeclaredClasses();
    rule(inside.length < 12, "too many classes");
    for (Class<?> c : inside) {
      rule(Modifier.isStatic(c.getModifiers()), "a class inside that isn't static: " + c);
      fields(c);
      for (Method m : c.getDeclaredMethods()) {
        rule(!face.contains(m.getName()), "a method inside that bears a name of the face: " + m);
        rule(m.getParameterCount() <= 7, "too many parameters: " + m);
      }
    }
    fields(LowNumber.class);
    for (Method m : LowNumber.class.getDeclaredMethods()) {
      rule(Modifier.isPublic(m.getModifiers()) || !face.contains(m.getName()), "a private method that bears a name of the face: " + m);
    }
  }

  private static void fields(Class<?> c) {
    int count = 0;
    for (Field f : c.getDeclaredFields()) {
      if (Modifier.isStatic(f.getModifiers())) rule(Modifier.isFinal(f.getModifiers()), "a static field that isn't final: " + f);
      else count++;
    }
    rule(count <= 20, "too many fields: " + c);
  }

  private static void text() throws Exception {
    String source = Files.readString(Path.of("src/main/java/LowNumber.java"));
    for (int i = 0; i < source.length(); i++) rule(source.charAt(i) < 128, "a sign above 127 at " + i);
    String code = source.replaceAll("(?s)/\\*.*?\\*/", "").replaceAll("//[^\n]*", "");
    for (String word : List.of("->", "::", "catch", "finally", "synchronized", "assert", "package", "java.util.Random", "System.", "Thread",
        "Exact(", "float", "double", "protected", "var ", "hashCode", "toString", "ordinal", "\" +", "+ \"")) {
      rule(!code.contains(word), "the file has " + word);
    }
    Matcher m = Pattern.compile("import ([a-zA-Z.]+);").matcher(code);
    while (m.find()) rule(m.group(1).equals("java.util.NoSuchElementException"), "imports " + m.group(1));
    rule(code.split("throw new", -1).length == 2, "only led throws");
    methodLengths(code.split("\n"));
  }

  /** Rule 7: no call throws by itself, whatever its arguments, without a draft, with one and with one held. */
  private static void extremes() throws Exception {
    int[] values = {Integer.MIN_VALUE, -65537, -101, -33, -1, 0, 1, 5, 6, 9, 10, 31, 32, 63, 64, 99, 100, 800, 999, 1000, 65536, 65537, Integer.MAX_VALUE};
    for (Method m : LowNumber.class.getDeclaredMethods()) {
      if (!Modifier.isPublic(m.getModifiers())) continue;
      for (int state = 0; state < 4; state++) {
        for (int value : values) {
          // each argument alone has the value, then all have it
          for (int at = 0; at <= m.getParameterCount(); at++) quiet(m, inState(state), value, at);
        }
      }
    }
  }

  private static void quiet(Method m, LowNumber x, int value, int at) throws Exception {
    Object[] arguments = new Object[m.getParameterCount()];
    for (int i = 0; i < arguments.length; i++) {
      boolean isFlag = m.getParameterTypes()[i] == boolean.class;
      int v = at == i || at == arguments.length ? value : 0;
      arguments[i] = isFlag ? (Object) (v % 2 == 0) : (Object) v;
    }
    try {
      m.invoke(x, arguments);
    } catch (java.lang.reflect.InvocationTargetException e) {
      rule(m.getName().equals("led") && e.getCause().getClass() == java.util.NoSuchElementException.class,
          m.getName() + " throws " + e.getCause() + " by " + List.of(arguments));
    }
  }

  /** 0 new, 1 one man, 2 six men and all that a text can tell, 3 that with a draft held and images. */
  private static LowNumber inState(int state) {
    LowNumber x = new LowNumber();
    StringBuilder s = new StringBuilder("draft takes 5;man a plain worth 9 coins 9 asks 1");
    if (state >= 2) {
      for (char c = 'b'; c <= 'f'; c++) s.append(";man ").append(c).append(" married worth 99 coins 200 asks 1");
      s.append(";kin a b;kin a c;kin a d;kin a e;kin a f;kin b c;spares married;doctor hits 1 errs 1 share 1;went b;went c;went d");
    }
    while (s.length() % 20 != 0) s.append(' ');
    for (int i = 0; state > 0 && i < s.length(); i += 20) x.feed(four(s, i), four(s, i + 4), four(s, i + 8), four(s, i + 12), four(s, i + 16));
    if (state > 0) rule(x.draft(s.length()) == (state == 1 ? 1 : 6), "the draft of state " + state);
    for (int i = 0; state == 3 && i < 17; i++) x.hold();
    for (int i = 0; state == 3 && i < 3; i++) x.image();
    return x;
  }

  private static int four(CharSequence s, int at) {
    return s.charAt(at) << 24 | s.charAt(at + 1) << 16 | s.charAt(at + 2) << 8 | s.charAt(at + 3);
  }

  private static void methodLengths(String[] lines) {
    int begun = -1;
    String indent = "";
    for (int i = 0; i < lines.length; i++) {
      Matcher head = Pattern.compile("( {4}| {8})[a-zA-Z].*\\) (throws \\w+ )?\\{").matcher(lines[i]);
      if (head.matches()) {
        begun = i;
        indent = head.group(1);
      } else if (begun >= 0 && lines[i].equals(indent + "}")) {
        rule(i - begun <= 60, "a method of more than sixty lines: " + lines[begun]);
        begun = -1;
      }
    }
  }
}
