import java.nio.file.Files;
import java.nio.file.Path;
import java.util.List;

/** What README.md says that calls answer: each line is looked for there, and the call is made. Runs at the project's root. */
public final class ReadmeTest extends Helpers {
  private static List<String> lines = List.of();

  public static void main(String[] args) throws Exception {
    lines = Files.readAllLines(Path.of("README.md"));
    heading("README.md, by hand");
    BaledShade shade = new BaledShade();
    int oak = shade.thing(10, 1, 0);
    says("int oak = shade.thing(10, 1, 0);", oak);
    int ann = shade.reaper(30);
    says("int ann = shade.reaper(30);", ann);
    int loft = shade.barn(50);
    says("int loft = shade.barn(50);", loft);
    int bale = shade.cut(oak, ann, loft);
    says("int bale = shade.cut(oak, ann, loft);", bale);
    says("shade.cut(oak, ann, loft);", shade.cut(oak, ann, loft));
    says("shade.bale(bale, 1);", shade.bale(bale, 1));
    says("shade.hour(9);", shade.hour(9));
    says("shade.stored(1, loft);", shade.stored(1, loft));
    says("shade.undo();", shade.undo());

    heading("README.md, by a text");
    says("shade.feed(0x73656c6c, 0x73206c65, 0x6e677468, 0x2a323b20, 0x20202020);",
        shade.feed(0x73656c6c, 0x73206c65, 0x6e677468, 0x2a323b20, 0x20202020));
    says("shade.end(15);", shade.end(15));
    int law = shade.text();
    says("int law = shade.text();", law);
    says("shade.fault(0);", shade.fault(0));
    due("shade.by(law)", shade.by(law), true);
    says("shade.bale(bale, 5);", shade.bale(bale, 5));
    says("shade.played(law);", shade.played(law));
    says("shade.back();", shade.back());
    says("shade.about(8);", shade.about(8));
    close("ReadmeTest");
  }

  /** README.md has a line of this call, and behind the call stands what it answered. */
  private static void says(String call, int answer) {
    String told = "no line";
    for (String line : lines) {
      if (line.startsWith("    " + call)) told = line.substring(4 + call.length()).trim();
    }
    due("README.md says \"" + told + "\" of " + call + ", which answered " + answer + ": so", told.startsWith("// " + answer + ":"), true);
  }
}
