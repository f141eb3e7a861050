import java.net.URI;
import java.net.URISyntaxException;
import java.util.ArrayList;
import java.util.List;
import java.util.NoSuchElementException;
import java.util.regex.Matcher;
import java.util.regex.Pattern;

/**
 * Linkloom told a second time, by java.net.URI itself and by the pattern of RFC 2396 (appendix B):
 * what the program cuts by hand, the library cuts here.
 */
final class Model {
    private static final String[] WORDS = ("http file mailto a : // / ? # @ user u:p host w.x-y.com 1.2.3.4 1.2.3.256 "
            + ":81 - . a- 9 _ p/q .. x=1&y=2 ;v=1 %41%7e ~(!)*' $ { <> 2147483648").split(" ");
    private static final String PARTS = "smauhpqfw";
    private static final Pattern CUT =
            Pattern.compile("(([^:/?#]*):)?((//([^/?#]*))?([^?#]*)(\\?([^#]*))?)(#(.*))?");
    private static final Pattern BAD = Pattern.compile("[\"<>\\\\^`{|}]");

    private List<String> pieces = new ArrayList<>();
    private final URI[] slots = new URI[4];
    private int refusals;
    private URISyntaxException last;

    String text() {
        return String.join("", pieces);
    }

    private static List<String> cutToPieces(String signs) {
        List<String> cut = new ArrayList<>();
        Matcher m = Pattern.compile("%..|.").matcher(signs);
        while (m.find()) {
            cut.add(m.group());
        }
        return cut;
    }

    private int put(String signs) {
        if (text().length() + signs.length() > 60) {
            throw new IllegalStateException();
        }
        pieces.addAll(cutToPieces(signs));
        return text().length();
    }

    int type(char sign) {
        if (sign < 33 || sign > 126 || sign == '%' || sign == '[' || sign == ']' || sign == '0') {
            throw new IllegalArgumentException();
        }
        return put(String.valueOf(sign));
    }

    int escape(int value, boolean isSmall) {
        if (value < 0 || value > 255) {
            throw new IllegalArgumentException();
        }
        return put(String.format(isSmall ? "%%%02x" : "%%%02X", value));
    }

    int word(int which) {
        if (which < 0 || which > 31) {
            throw new IndexOutOfBoundsException();
        }
        return put(WORDS[which]);
    }

    int drop() {
        if (pieces.isEmpty()) {
            throw new NoSuchElementException();
        }
        pieces.remove(pieces.size() - 1);
        return text().length();
    }

    int wipe() {
        int had = text().length();
        pieces.clear();
        return had;
    }

    int length() {
        return text().length();
    }

    char signAt(int place) {
        if (place < 0 || place >= text().length()) {
            throw new IndexOutOfBoundsException();
        }
        return text().charAt(place);
    }

    private static void checkSlot(int slot) {
        if (slot < 0 || slot > 3) {
            throw new IndexOutOfBoundsException();
        }
    }

    int parse(int slot) {
        checkSlot(slot);
        Matcher m = CUT.matcher(text());
        if (m.matches() && m.group(5) != null && BAD.matcher(m.group(5)).find()) {
            throw new IllegalStateException();
        }
        try {
            slots[slot] = new URI(text());
            return -1;
        } catch (URISyntaxException e) {
            refusals++;
            last = e;
            return e.getIndex();
        }
    }

    int refusals() {
        return refusals;
    }

    private void checkRefused() {
        if (last == null) {
            throw new NoSuchElementException();
        }
    }

    int refusedAt() {
        checkRefused();
        return last.getIndex();
    }

    boolean isTold() {
        checkRefused();
        return !last.getReason().isEmpty();
    }

    boolean isThere(int slot) {
        checkSlot(slot);
        return slots[slot] != null;
    }

    private URI uri(int slot) {
        checkSlot(slot);
        if (slots[slot] == null) {
            throw new NoSuchElementException();
        }
        return slots[slot];
    }

    boolean isAbsolute(int slot) {
        return uri(slot).isAbsolute();
    }

    boolean isOpaque(int slot) {
        return uri(slot).isOpaque();
    }

    int port(int slot) {
        return uri(slot).getPort();
    }

    private static String part(URI uri, char part) {
        switch (part) {
            case 's': return uri.getScheme();
            case 'm': return uri.getRawSchemeSpecificPart();
            case 'a': return uri.getRawAuthority();
            case 'u': return uri.getRawUserInfo();
            case 'h': return uri.getHost();
            case 'p': return uri.getRawPath();
            case 'q': return uri.getRawQuery();
            case 'f': return uri.getRawFragment();
            default: return uri.toString();
        }
    }

    private String partOf(int slot, char part) {
        checkSlot(slot);
        if (PARTS.indexOf(part) < 0) {
            throw new IllegalArgumentException();
        }
        return part(uri(slot), part);
    }

    int size(int slot, char part) {
        String signs = partOf(slot, part);
        return signs == null ? -1 : signs.length();
    }

    char partSign(int slot, char part, int place) {
        String signs = partOf(slot, part);
        if (signs == null || place < 0 || place >= signs.length()) {
            throw new NoSuchElementException();
        }
        return signs.charAt(place);
    }

    int begin(int slot, char part) {
        if (partOf(slot, part) == null) {
            return -1;
        }
        Matcher m = CUT.matcher(uri(slot).toString());
        m.matches();
        switch (part) {
            case 's': return m.start(2);
            case 'm': return m.start(3);
            case 'a': case 'u': return m.start(5);
            case 'h': return m.start(5) + m.group(5).indexOf('@') + 1;
            case 'p': return m.start(6);
            case 'q': return m.start(8);
            case 'f': return m.start(10);
            default: return 0;
        }
    }

    int append(int slot, char part) {
        String signs = partOf(slot, part);
        if (signs == null) {
            throw new NoSuchElementException();
        }
        return put(signs);
    }

    int copy(int slot, int to) {
        checkSlot(slot);
        checkSlot(to);
        slots[to] = slots[slot];
        int there = 0;
        for (URI uri : slots) {
            there += uri != null ? 1 : 0;
        }
        return there;
    }

    int alike(int slot, int other) {
        checkSlot(slot);
        checkSlot(other);
        int alike = 0;
        for (char part : PARTS.toCharArray()) {
            alike += String.valueOf(part(uri(slot), part)).equals(String.valueOf(part(uri(other), part))) ? 1 : 0;
        }
        return alike;
    }

    private static String woven(URI uri, URI other, char swapped) {
        StringBuilder signs = new StringBuilder();
        String scheme = part(swapped == 's' ? other : uri, 's');
        signs.append(scheme == null ? "" : scheme + ":");
        if (uri.isOpaque()) {
            signs.append(uri.getRawSchemeSpecificPart());
        } else {
            String authority = part(swapped == 'a' ? other : uri, 'a');
            String query = part(swapped == 'q' ? other : uri, 'q');
            signs.append(authority == null ? "" : "//" + authority);
            signs.append(part(swapped == 'p' ? other : uri, 'p'));
            signs.append(query == null ? "" : "?" + query);
        }
        String fragment = part(swapped == 'f' ? other : uri, 'f');
        return signs.append(fragment == null ? "" : "#" + fragment).toString();
    }

    boolean together(int slot) {
        pieces = cutToPieces(woven(uri(slot), uri(slot), 'x'));
        return text().equals(uri(slot).toString());
    }

    int mix(int slot, int other, char part) {
        checkSlot(slot);
        checkSlot(other);
        URI one = uri(slot);
        URI another = uri(other);
        if ("sapqf".indexOf(part) < 0) {
            throw new IllegalArgumentException();
        }
        if (one.isOpaque() || another.isOpaque()) {
            throw new UnsupportedOperationException();
        }
        String signs = woven(one, another, part);
        if (signs.length() > 60) {
            throw new IllegalStateException();
        }
        pieces = cutToPieces(signs);
        return signs.length();
    }

    boolean isTrue() {
        return true;
    }

    long checksum() {
        long sum = 7;
        for (char sign : text().toCharArray()) {
            sum = 31 * sum + sign;
        }
        sum = 31 * sum + refusals;
        for (int slot = 0; slot < 4; slot++) {
            if (slots[slot] == null) {
                sum = 31 * sum;
            } else {
                for (char part : PARTS.toCharArray()) {
                    sum = 31 * sum + size(slot, part);
                }
                sum = 31 * sum + port(slot);
            }
        }
        return sum;
    }
}
