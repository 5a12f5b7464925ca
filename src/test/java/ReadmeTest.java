import java.nio.charset.StandardCharsets;
import java.nio.file.Files;
import java.nio.file.Path;
import java.util.ArrayList;
import java.util.List;

/** The README's example stands here line by line, runs, and answers what its remarks tell. */
public final class ReadmeTest {
    public static void main(String[] args) throws Exception {
        answers();
        standsHere();
        namesTheFace();
        Due.finish("ReadmeTest");
    }

    private static void answers() {
        PastHeaps heaps = new PastHeaps();
        heaps.feed(0x70757420, 0x3020353b, 0x70757420, 0x3120333b, 0x6c657373); // "put 0 5;put 1 3;less"
        heaps.feed(0x20323b20, 0x20202020, 0x20202020, 0x20202020, 0x20202020); // " 2;" and blanks
        int tape = heaps.end(23);                          // 23: "put 0 5;put 1 3;less 2;"
        int row = heaps.text(PastHeaps.NONE);              // 0: a further row
        int stop = heaps.stop(row);                        // 3: all three acts can be
        int size = heaps.version(row, 2, 0);               // 2: version 2 holds two nodes
        int least = heaps.order(row, 2, 0, true);          // 3: the least key in it
        int left = heaps.order(row, 3, 0, true);           // 5: version 3 is without it, version 2 is as it was
        int back = heaps.kept(row, 1L << 3, true);         // 2: nodes given back if version 3 alone is kept
        Due.is("tape", tape, 23);
        Due.is("row", row, 0);
        Due.is("stop", stop, 3);
        Due.is("size", size, 2);
        Due.is("least", least, 3);
        Due.is("left", left, 5);
        Due.is("back", back, 2);
    }

    private static void standsHere() throws Exception {
        List<String> here = new ArrayList<>();
        for (String line : Files.readAllLines(Path.of("src/test/java/ReadmeTest.java"), StandardCharsets.UTF_8)) {
            here.add(line.trim());
        }
        int first = here.indexOf("PastHeaps heaps = new PastHeaps();");
        String[] example = readme().split("```java\n")[1].split("\n```")[0].split("\n");
        for (int i = 0; i < example.length; i++) {
            Due.is("like the README's: " + example[i], example[i].equals(here.get(first + i)), true);
        }
        Due.is("nothing of it is left out", here.get(first + example.length).startsWith("Due.is"), true);
    }

    private static void namesTheFace() throws Exception {
        String readme = readme();
        for (java.lang.reflect.Method method : PastHeaps.class.getDeclaredMethods()) {
            String name = method.getName();
            boolean open = java.lang.reflect.Modifier.isPublic(method.getModifiers());
            boolean named = readme.contains("`" + name + "`") || readme.contains("heaps." + name + "(")
                || readme.contains("`" + name + "(");
            Due.is("README names " + name, !open || named, true);
        }
    }

    private static String readme() throws Exception {
        return Files.readString(Path.of("README.md"), StandardCharsets.UTF_8);
    }
}
