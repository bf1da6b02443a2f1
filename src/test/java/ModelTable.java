import java.util.List;
import java.util.TreeMap;

/** A table of the model: rows by their texts, a null for nothing in a cell. */
final class ModelTable {
    final List<String> names;
    final TreeMap<List<String>, Long[]> rows = new TreeMap<>((a, b) -> {
        for (int i = 0; i < a.size(); i++) {
            int c = a.get(i).compareTo(b.get(i));
            if (c != 0) {
                return c;
            }
        }
        return 0;
    });

    ModelTable(List<String> names) {
        this.names = names;
    }

    void addIfAny(List<String> texts, Long[] cells) {
        for (Long c : cells) {
            if (c != null) {
                rows.put(texts, cells);
                return;
            }
        }
    }
}
