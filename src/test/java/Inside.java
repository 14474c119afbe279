import java.lang.reflect.Field;
import java.lang.reflect.Method;

/** Gives an object an image that no 512 calls could give it: straight into its row. */
final class Inside {
    private Inside() {
    }

    /** Whether the object has such a row; a program that holds its image otherwise has none. */
    static boolean setImage(HelpFile file, int[] bytes) {
        try {
            Field field = HelpFile.class.getDeclaredField("image");
            field.setAccessible(true);
            Object row = field.get(file);
            Method shorten = row.getClass().getDeclaredMethod("shorten", int.class);
            Method append = row.getClass().getDeclaredMethod("append", int.class);
            shorten.setAccessible(true);
            append.setAccessible(true);
            shorten.invoke(row, 0);
            for (int b : bytes) {
                append.invoke(row, b);
            }
            return true;
        } catch (ReflectiveOperationException e) {
            return false;
        }
    }
}
