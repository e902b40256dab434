import java.util.TreeMap;

/** Runs of random calls, each made of KeelHouse and of Model, the document told once more: all answers are alike. */
public final class BesideModelTest {
  public static void main(String[] args) {
    int first = args.length > 0 ? Integer.parseInt(args[0]) : 1;
    int last = args.length > 1 ? Integer.parseInt(args[1]) : 60;
    boolean isCounted = args.length > 2;
    TreeMap<String, Integer> seen = new TreeMap<>();
    int wrong = 0;
    for (int seed = first; seed <= last; seed++) {
      RandomCalls calls = new RandomCalls(seed, seen);
      String bad = seed % 3 == 0 ? calls.run(400, 25) : calls.runBuilt(300, 25);
      if (bad != null) {
        wrong++;
        System.out.println("seed " + seed + ", " + bad);
      }
    }
    if (isCounted) {
      seen.forEach((name, many) -> System.out.println(many + " " + name));
    }
    if (wrong > 0) {
      System.exit(1);
    }
  }
}
