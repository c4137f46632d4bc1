import java.io.File;
import java.io.IOException;
import java.io.UncheckedIOException;
import java.lang.reflect.InvocationTargetException;
import java.net.URL;
import java.net.URLClassLoader;
import java.nio.file.Files;
import java.nio.file.Path;
import java.util.ArrayList;
import java.util.Comparator;
import java.util.List;
import java.util.stream.Stream;
import javax.tools.JavaCompiler;
import javax.tools.StandardJavaFileManager;
import javax.tools.ToolProvider;

/**
 * Each sentence of the document that names a boundary case has runs of its own in sentences.txt.
 *
 * Three things are looked at: that sentences.txt leaves no sentence of the document out, that the class
 * answers the runs as due, and that a sentence's own runs notice each change of the class that breaks it.
 */
final class SentencesTest {
    private static final Path DOCUMENT = Path.of("../shared/DOC.md");
    private static final Path SENTENCES = Path.of("src/test/sentences.txt");
    private static final Path SOURCE = Path.of("src/main/java/FlowletSwitch.java");

    /** All of them in one call of the compiler would need half a gigabyte. */
    private static final int AT_ONCE = 100;

    /** A change of the class, with the sentence that it breaks. */
    private record Breaking(Sentence sentence, SourceChange change) {
    }

    public static void main(String[] args) throws IOException, ReflectiveOperationException {
        List<Sentence> sentences = Sentence.readAll(Files.readAllLines(SENTENCES));
        noSentenceIsLeftOut(sentences);
        sentencesHold(sentences);
        brokenSentencesAreNoticed(sentences);
        Script.finish();
    }

    private static void noSentenceIsLeftOut(List<Sentence> sentences) throws IOException {
        List<String> due = DocumentSentences.of(Files.readString(DOCUMENT));
        List<String> got = sentences.stream().map(Sentence::name).toList();
        Script.due("sentences.txt", "number of sentences", got.size(), due.size());
        for (int i = 0; i < Math.min(got.size(), due.size()); i++) {
            Script.count("sentences.txt", new Script.Answer("sentence " + i, got.get(i), due.get(i)));
        }
    }

    private static void sentencesHold(List<Sentence> sentences) {
        for (Sentence sentence : sentences) {
            if (sentence.namesBoundary()) {
                Script.holds(sentence.name() + " has a run", !sentence.runs().isEmpty());
                Script.holds(sentence.name() + " has a change that breaks it", !sentence.changes().isEmpty());
            }
            for (String run : sentence.runs()) {
                Script.run(sentence.name(), run);
            }
        }
    }

    private static void brokenSentencesAreNoticed(List<Sentence> sentences)
            throws IOException, ReflectiveOperationException {
        List<Breaking> breakings = new ArrayList<>();
        for (Sentence sentence : sentences) {
            for (String change : sentence.changes()) {
                breakings.add(new Breaking(sentence, SourceChange.of(change)));
            }
        }
        Path directory = Files.createTempDirectory("broken");
        try {
            compileAll(breakings, directory);
            try (URLClassLoader loader = new URLClassLoader(new URL[] {directory.toUri().toURL()})) {
                for (int i = 0; i < breakings.size(); i++) {
                    Class<?> broken = loader.loadClass("broken" + i + ".FlowletSwitch");
                    Sentence sentence = breakings.get(i).sentence();
                    Script.holds(sentence.name() + ": noticed: " + breakings.get(i).change(), notices(sentence, broken));
                }
            }
        } finally {
            delete(directory);
        }
    }

    private static boolean notices(Sentence sentence, Class<?> broken) throws ReflectiveOperationException {
        for (String run : sentence.runs()) {
            Object object;
            try {
                object = broken.getConstructor().newInstance();
            } catch (InvocationTargetException e) {
                return true;
            }
            if (!Script.answers(object, run).stream().allMatch(Script.Answer::isDue)) {
                return true;
            }
        }
        return false;
    }

    /** Each broken class stands in a package of its own, so that the compiler takes many in one call. */
    private static void compileAll(List<Breaking> breakings, Path directory) throws IOException {
        String source = Files.readString(SOURCE);
        List<File> files = new ArrayList<>();
        for (int i = 0; i < breakings.size(); i++) {
            Path file = Files.createDirectory(directory.resolve("broken" + i)).resolve("FlowletSwitch.java");
            Files.writeString(file, "package broken" + i + ";\n" + breakings.get(i).change().apply(source));
            files.add(file.toFile());
        }
        for (int begin = 0; begin < files.size(); begin += AT_ONCE) {
            compile(files.subList(begin, Math.min(begin + AT_ONCE, files.size())), directory);
        }
    }

    private static void compile(List<File> files, Path directory) throws IOException {
        JavaCompiler compiler = ToolProvider.getSystemJavaCompiler();
        try (StandardJavaFileManager manager = compiler.getStandardFileManager(null, null, null)) {
            List<String> options = List.of("-d", directory.toString(), "-proc:none", "-nowarn", "-implicit:none");
            if (!compiler.getTask(null, manager, null, options, null, manager.getJavaFileObjectsFromFiles(files)).call()) {
                throw new IllegalStateException("a change in sentences.txt does not compile");
            }
        }
    }

    private static void delete(Path directory) throws IOException {
        try (Stream<Path> all = Files.walk(directory)) {
            all.sorted(Comparator.reverseOrder()).forEach(SentencesTest::deleteOne);
        }
    }

    private static void deleteOne(Path path) {
        try {
            Files.delete(path);
        } catch (IOException e) {
            throw new UncheckedIOException(e);
        }
    }
}
