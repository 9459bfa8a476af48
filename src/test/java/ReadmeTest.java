import java.nio.file.Files;
import java.nio.file.Path;
import java.util.List;

/** The calls of README.md's example answer what its comments say. */
public final class ReadmeTest {
    private static final Checks CHECKS = new Checks();
    private static List<String> lines;

    public static void main(String[] args) throws Exception {
        lines = Files.readAllLines(Path.of("README.md"));
        NewspaperMakeup paper = new NewspaperMakeup();
        said("paper.addAdvertisement(0, 0, 20, 5, 4, 10);", 0,
                () -> paper.addAdvertisement(0, 0, 20, 5, 4, 10));
        said("int story = paper.addStory(0, 3, 1, 50, 5);", 0, () -> paper.addStory(0, 3, 1, 50, 5));
        said("paper.setPhoto(story, 5, 1);", 0, () -> paper.setPhoto(0, 5, 1));
        said("paper.story(story, 10);", 2, () -> paper.story(0, 10));
        said("paper.locate(story, 49);", 1014, () -> paper.locate(0, 49));
        said("paper.trim(story);", 11, () -> paper.trim(0));
        said("int late = paper.addStory(0, 3, 2, 60, 0);", 1, () -> paper.addStory(0, 3, 2, 60, 0));
        said("paper.fate(late);", 2, () -> paper.fate(1));
        said("paper.linesIf(late, true);", 60, () -> paper.linesIf(1, true));
        for (char letter : "l1,1;p1,3,1".toCharArray()) {
            paper.feed(letter);
        }
        said("paper.perform();", 2, paper::perform);
        said("paper.fate(story);", 2, () -> paper.fate(0));
        said("paper.blamed(story);", 1, () -> paper.blamed(0));
        said("paper.undo();", 4, paper::undo);
        said("paper.layDown(0, 0, true, story);", 1, () -> paper.layDown(0, 0, true, 0));
        said("paper.takeUp(0, 0);", 2, () -> paper.takeUp(0, 0));
        CHECKS.end();
    }

    private static void said(String call, int due, Checks.Call made) {
        CHECKS.answers("the example's " + call, due, made);
        boolean isThere = lines.stream()
                .anyMatch(line -> line.startsWith(call) && line.matches(".*; +// " + due + "\\b.*"));
        CHECKS.isTrue("README.md says that " + call + " answers " + due, isThere);
    }
}
