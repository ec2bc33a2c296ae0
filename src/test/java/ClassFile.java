import java.io.DataInputStream;
import java.io.IOException;
import java.io.UncheckedIOException;
import java.util.Set;
import java.util.TreeSet;

/** What a compiled class uses: its file names every method and field that its code touches. */
final class ClassFile {
    private static final int TEXT = 1;
    private static final int LONG = 5;
    private static final int DOUBLE = 6;
    private static final int CLASS = 7;
    private static final int NAME_AND_TYPE = 12;
    private static final int DYNAMIC_CALL = 18;

    private final int[] tags;
    private final int[] firsts;
    private final int[] seconds;
    private final String[] texts;

    ClassFile(Class<?> of) {
        try (DataInputStream in = new DataInputStream(of.getResourceAsStream(of.getName() + ".class"))) {
            in.skipNBytes(8);
            int size = in.readUnsignedShort();
            tags = new int[size];
            firsts = new int[size];
            seconds = new int[size];
            texts = new String[size];
            for (int i = 1; i < size; i++) {
                readConstant(in, i);
                // The format gives these two numbers, of which the second one is not used.
                if (tags[i] == LONG || tags[i] == DOUBLE) i++;
            }
        } catch (IOException e) {
            throw new UncheckedIOException(e);
        }
    }

    private void readConstant(DataInputStream in, int i) throws IOException {
        tags[i] = in.readUnsignedByte();
        switch (tags[i]) {
            case TEXT:
                texts[i] = in.readUTF();
                break;
            case LONG:
            case DOUBLE:
                in.skipNBytes(8);
                break;
            case CLASS:
            case 8:
            case 16:
            case 19:
            case 20:
                firsts[i] = in.readUnsignedShort();
                break;
            case 15:
                in.skipNBytes(3);
                break;
            case 3:
            case 4:
            case 9:
            case 10:
            case 11:
            case NAME_AND_TYPE:
            case 17:
            case DYNAMIC_CALL:
                firsts[i] = in.readUnsignedShort();
                seconds[i] = in.readUnsignedShort();
                break;
            default:
                throw new IOException("not a class file of Java 17: a constant of kind " + tags[i]);
        }
    }

    boolean hasDynamicCalls() {
        for (int tag : tags) {
            if (tag == DYNAMIC_CALL) return true;
        }
        return false;
    }

    /** Methods, constructors and fields, as class.name. */
    Set<String> usedMembers() {
        Set<String> used = new TreeSet<>();
        for (int i = 0; i < tags.length; i++) {
            if (tags[i] >= 9 && tags[i] <= 11) {
                used.add(texts[firsts[firsts[i]]].replace('/', '.') + "." + texts[firsts[seconds[i]]]);
            }
        }
        return used;
    }
}
