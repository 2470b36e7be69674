import com.sun.source.tree.CompilationUnitTree;
import com.sun.source.tree.Tree;
import com.sun.source.util.JavacTask;
import com.sun.source.util.TreePath;
import com.sun.source.util.Trees;
import java.io.IOException;
import java.nio.file.Files;
import java.nio.file.Path;
import java.util.List;
import javax.lang.model.element.Element;
import javax.lang.model.element.ElementKind;
import javax.tools.JavaCompiler;
import javax.tools.StandardJavaFileManager;
import javax.tools.ToolProvider;

/** The program's file as the compiler reads it, so that what a name means is known and not guessed. */
final class Program {
    private static final Path SOURCE = Path.of("src/main/java/GridRiddles.java");

    final String text;
    final CompilationUnitTree unit;
    private final Trees trees;

    Program() throws IOException {
        text = Files.readString(SOURCE);
        JavaCompiler compiler = ToolProvider.getSystemJavaCompiler();
        StandardJavaFileManager files = compiler.getStandardFileManager(null, null, null);
        JavacTask task = (JavacTask) compiler.getTask(null, files, null, List.of("-proc:none"), null,
            files.getJavaFileObjects(SOURCE));
        unit = task.parse().iterator().next();
        task.analyze();
        trees = Trees.instance(task);
    }

    Element meaning(TreePath path) {
        return trees.getElement(path);
    }

    int lines(Tree tree) {
        return line(trees.getSourcePositions().getEndPosition(unit, tree)) - firstLine(tree) + 1;
    }

    int firstLine(Tree tree) {
        return line(trees.getSourcePositions().getStartPosition(unit, tree));
    }

    private int line(long sign) {
        return (int) unit.getLineMap().getLineNumber(sign);
    }

    static boolean isOwn(Element element) {
        return outermost(element).equals("GridRiddles");
    }

    /** A method or field as "Math.max", a constructor as "Clue.<init>". */
    static String name(Element element) {
        return element.getEnclosingElement().getSimpleName() + "." + element.getSimpleName();
    }

    private static String outermost(Element element) {
        Element outer = element;
        while (outer.getEnclosingElement() != null && outer.getEnclosingElement().getKind() != ElementKind.PACKAGE) {
            outer = outer.getEnclosingElement();
        }
        return outer.getSimpleName().toString();
    }
}
