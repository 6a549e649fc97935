import java.util.Collections;
import java.util.NoSuchElementException;

/** Writes and reads a register as a text: rows parted by "/", values by " ", "." for no entry. */
final class Grid {
    private Grid() {
    }

    static SemiringDesk write(SemiringDesk desk, int r, String text) {
        String[] rows = text.split("/");
        desk.shape(r, rows.length, cells(rows[0]).length);
        for (int i = 0; i < rows.length; i++) {
            String[] cells = cells(rows[i]);
            for (int j = 0; j < cells.length; j++) {
                if (!cells[j].equals(".")) {
                    desk.put(r, i, j, Long.parseLong(cells[j]));
                }
            }
        }
        return desk;
    }

    static String read(SemiringDesk desk, int r) {
        int size = desk.size(r);
        int rows = size % 16;
        int columns = size / 16 % 16;
        int found = 0;
        StringBuilder text = new StringBuilder();
        for (int i = 0; i < rows; i++) {
            text.append(i == 0 ? "" : " / ");
            for (int j = 0; j < columns; j++) {
                String cell = cell(desk, r, i, j);
                found += cell.equals(".") ? 0 : 1;
                text.append(j == 0 ? "" : " ").append(cell);
            }
        }
        if (found != size / 256) {
            text.append(" but size counts ").append(size / 256);
        }
        return text.toString();
    }

    static String readAll(SemiringDesk desk) {
        StringBuilder text = new StringBuilder();
        for (int r = 0; r < 6; r++) {
            text.append(r == 0 ? "" : " | ").append(read(desk, r));
        }
        return text.toString();
    }

    /** The text of a matrix with the same in every place ("." for no entry). */
    static String even(int rows, int columns, String cell) {
        String row = String.join(" ", Collections.nCopies(columns, cell));
        return String.join(" / ", Collections.nCopies(rows, row));
    }

    /** The text with another cell at one place. */
    static String with(String text, int i, int j, String cell) {
        String[] rows = text.split(" / ");
        String[] cells = cells(rows[i]);
        cells[j] = cell;
        rows[i] = String.join(" ", cells);
        return String.join(" / ", rows);
    }

    private static String[] cells(String row) {
        return row.trim().split(" +");
    }

    private static String cell(SemiringDesk desk, int r, int i, int j) {
        try {
            return String.valueOf(desk.at(r, i, j));
        } catch (NoSuchElementException e) {
            return ".";
        }
    }
}
