import java.io.IOException;
import java.lang.reflect.Method;
import java.lang.reflect.Modifier;
import java.nio.file.Files;
import java.nio.file.Path;
import java.util.Set;
import java.util.TreeSet;

/** README.md's example gives the answers it tells, and its table has every method; run from the project's root. */
public final class ReadmeTest {
    private static final Checks checks = new Checks("ReadmeTest");

    public static void main(String[] args) throws IOException {
        String readme = Files.readString(Path.of("README.md"));
        example();
        exampleIsTheReadmes(readme);
        tableHasEveryMethod(readme);
        checks.finish();
    }

    private static void example() {
        SignalKernel kernel = new SignalKernel(2, 4);
        kernel.poke(0, 0, SignalKernel.OP_JMP, 0);
        kernel.poke(0, 8, SignalKernel.OP_OUT, 0);
        kernel.poke(0, 9, SignalKernel.OP_SIGRET, 0);
        kernel.setAction(0, 16, 8, SignalKernel.SA_RESTART);
        int serial = kernel.send(0, 16);
        int steps = kernel.run(3);
        int value = kernel.logField(2, 2);
        checks.due("the example's serial", serial, 1);
        checks.due("the example's steps", steps, 4);
        checks.due("the example's value", value, 16);
    }

    /** Every statement of the README's example stands in example(), and in the same order. */
    private static void exampleIsTheReadmes(String readme) throws IOException {
        String own = Files.readString(Path.of("src/test/java/ReadmeTest.java"));
        int at = own.indexOf("void example()");
        String block = readme.substring(readme.indexOf("```java\n") + 8, readme.indexOf("\n```\n"));
        for (String line : block.split("\n")) {
            String statement = line.substring(0, line.indexOf(';') + 1);
            int found = own.indexOf("        " + statement + "\n", at);
            checks.due("the example has " + statement, found >= 0 ? 1 : 0, 1);
            at = Math.max(at, found);
        }
    }

    private static void tableHasEveryMethod(String readme) {
        Set<String> names = new TreeSet<>();
        for (Method method : SignalKernel.class.getDeclaredMethods()) {
            if (Modifier.isPublic(method.getModifiers())) {
                names.add(method.getName());
            }
        }
        for (String name : names) {
            checks.due("the table has " + name, readme.contains("\n| `" + name + "(") ? 1 : 0, 1);
        }
    }
}
