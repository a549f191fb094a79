import java.lang.reflect.Method;
import java.util.ArrayList;
import java.util.Arrays;
import java.util.Comparator;
import java.util.List;
import java.util.Random;

/** Runs of drawn calls on EqualPlain, each compared with NaiveModel; always the same runs. */
public final class ModelRuns {
  private static final int RUNS = 400;
  private static final int CALLS = 512;
  private static final String[] TEXTS = {
    "house at 2 3;house at 4 3", "inn at 0 5;hut at 1 1;coin 77", "worth 7 on 3 4;worth 099 on 11 11",
    "tower at 9 9;church at 3 8", " ruin at 5 5 ", "streeted at7 7;house at 6 0;worth 1 on 2 2",
    "coin 99999;coin 0", "house at 11 11;house at 11 11", "coin 000000000000000003", "coin 12345678901234567890"};
  private static final String BYTES = "abcdehinorstuwx0123456789;;  .A/{`:";

  public static void main(String[] args) throws Exception {
    List<Method> methods = new ArrayList<>();
    for (Method m : EqualPlain.class.getDeclaredMethods()) {
      if (java.lang.reflect.Modifier.isPublic(m.getModifiers())) methods.add(m);
    }
    methods.sort(Comparator.comparing(Method::getName));
    int wrong = 0;
    for (int run = 0; run < RUNS && wrong < 5; run++) {
      if (!agrees(run, methods)) wrong++;
    }
    System.out.println(wrong == 0 ? "the runs agree with the model" : wrong + " runs do not agree with the model");
    if (wrong != 0) System.exit(1);
  }

  private static boolean agrees(int run, List<Method> methods) throws Exception {
    Random dice = new Random(run);
    EqualPlain plain = new EqualPlain();
    NaiveModel model = new NaiveModel();
    List<String> log = new ArrayList<>();
    // Some runs build much, some burn much, so that few houses and many are both met.
    String often = switch (run % 4) { case 0 -> "grace"; case 1 -> "fire"; case 2 -> "build"; default -> "strew"; };
    for (int i = 0; i < CALLS; i++) {
      Method m = dice.nextInt(8) == 0 ? named(methods, often) : methods.get(dice.nextInt(methods.size()));
      if (m.getName().equals("text") && dice.nextInt(3) > 0) i += feedText(dice, plain, model);
      Object[] in = arguments(dice, m);
      if (m.getName().equals("build") && dice.nextInt(4) > 0) aimAtFreeLot(dice, model, in);
      Object got = m.invoke(plain, in);
      Object due = NaiveModel.class.getMethod(m.getName(), m.getParameterTypes()).invoke(model, in);
      log.add(m.getName() + Arrays.toString(in) + " = " + got);
      if (!got.equals(due)) {
        System.out.println("run " + run + ", call " + i + ": " + log.get(log.size() - 1) + ", due is " + due);
        return false;
      }
    }
    return true;
  }

  private static Method named(List<Method> methods, String name) {
    return methods.stream().filter(m -> m.getName().equals(name)).findFirst().orElseThrow();
  }

  private static int feedText(Random dice, EqualPlain plain, NaiveModel model) {
    StringBuilder text = new StringBuilder(TEXTS[dice.nextInt(TEXTS.length)]);
    if (dice.nextBoolean()) text.append(";").append(TEXTS[dice.nextInt(TEXTS.length)]);
    for (int n = dice.nextInt(3); n > 0; n--) {
      text.setCharAt(dice.nextInt(text.length()), BYTES.charAt(dice.nextInt(BYTES.length())));
    }
    plain.wipe();
    model.wipe();
    for (int i = 0; i < text.length(); i++) {
      plain.feed(text.charAt(i) | dice.nextInt() << 8, 1);
      model.feed(text.charAt(i), 1);
    }
    return 1;
  }

  /** Few drawn lots are free: without an aim hardly a house would be built. */
  private static void aimAtFreeLot(Random dice, NaiveModel model, Object[] in) {
    int y = dice.nextInt(12);
    int free = model.row(y);
    for (int x = 0; x < 12; x++) {
      if ((free >> x & 1) != 0 && dice.nextInt(3) == 0) {
        in[1] = x;
        in[2] = y;
      }
    }
  }

  private static Object[] arguments(Random dice, Method m) {
    Object[] in = new Object[m.getParameterCount()];
    for (int i = 0; i < in.length; i++) in[i] = argument(dice, m.getName(), i);
    return in;
  }

  private static int argument(Random dice, String name, int i) {
    if (dice.nextInt(60) == 0) {
      int[] odd = {-1, -2, Integer.MIN_VALUE, Integer.MAX_VALUE, 12, 7, 144, 10, 41, 100, 100000, 61};
      return odd[dice.nextInt(odd.length)];
    }
    switch (name) {
      case "grace": case "build":
        return i == 0 ? dice.nextInt(dice.nextBoolean() ? 1 : 7) : dice.nextInt(12);
      case "of": return dice.nextInt(i == 0 ? 6 : 5);
      case "change": return dice.nextInt(i == 0 ? 6 : 7);
      case "worth": return i == 2 ? dice.nextInt(100) : dice.nextInt(12);
      case "coin": return dice.nextInt(dice.nextInt(4) == 0 ? 20 : 1000);
      case "far": return i == 0 ? dice.nextInt(6) : dice.nextInt(12);
      case "hut": return i == 2 ? dice.nextInt(2) : dice.nextInt(12);
      case "lots": return dice.nextInt(3);
      case "loses": case "dear": case "kindFor": case "founders": return dice.nextInt(8);
      case "opens": case "opened": return dice.nextInt(7);
      case "years": return 1 + dice.nextInt(60);
      case "ahead": return i == 0 ? dice.nextInt(61) : dice.nextInt(3);
      case "strew": return 1 + dice.nextInt(12);
      case "seed": return dice.nextInt();
      case "feed": return i == 0 ? dice.nextInt() : dice.nextInt(6);
      case "hold": return i == 0 ? dice.nextInt(4) : dice.nextInt(9) - 1;
      case "as": return i == 0 ? dice.nextInt(4) : dice.nextInt(7);
      case "sheet": return i == 0 ? dice.nextInt(4) : i == 1 ? 8 * dice.nextInt(5) : dice.nextInt(dice.nextBoolean() ? 43 : 4) - 1;
      case "write": return i == 0 ? dice.nextInt(4) : i == 1 ? dice.nextInt(5) : dice.nextInt(dice.nextBoolean() ? 300 : 144) - 10;
      case "copy": return i == 0 || i == 2 ? dice.nextInt(4) : dice.nextInt(5);
      case "load": case "judge": return dice.nextInt(4);
      case "count": return dice.nextInt(8);
      case "status": return dice.nextInt(8) - 1;
      default: return dice.nextInt(12);
    }
  }
}
