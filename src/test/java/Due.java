import java.util.Arrays;
import java.util.Map;
import java.util.Objects;
import java.util.TreeMap;

/** Counts the answers that are not the ones that are due, and tells them. */
final class Due {
    private final String name;
    private int wrong;
    private int looked;

    Due(String name) {
        this.name = name;
    }

    void due(String call, long got, long want) {
        looked++;
        if (got == want) return;
        wrong++;
        System.out.println(name + ": " + call + " answered " + got + ", due is " + want);
    }

    /** Only what differs is told, and of that only what may not. */
    void same(String what, Map<String, Integer> got, Map<String, Integer> want, String... may) {
        looked++;
        Map<String, Integer> all = new TreeMap<>(want);
        all.putAll(got);
        boolean alike = true;
        for (String name : all.keySet()) {
            boolean mayDiffer = Arrays.stream(may).anyMatch(name::startsWith);
            if (mayDiffer || Objects.equals(got.get(name), want.get(name))) continue;
            alike = false;
            System.out.println(this.name + ": " + what + ": " + name + " is " + got.get(name) + ", not " + want.get(name));
        }
        if (!alike) wrong++;
    }

    void end() {
        System.out.println(name + ": " + looked + " answers, " + wrong + " of them not as due");
        if (wrong != 0) System.exit(1);
    }
}
