import java.util.ArrayList;
import java.util.List;

/** The document once more, as plainly as the Java library allows: objects that know one another, nothing held twice. */
final class Model {
    static final int NONE = -1, BAD = -2, FULL = -3, STATE = -4, FAILED = -5, RING = -6;

    static final class Mark {
        int number, targets, keep;
        boolean inherited;
        List<Element> elements = new ArrayList<>();
        Mark container;
    }

    static final class Element {
        int name, kind;
        boolean row;
        Value fallback;
    }

    static final class Place {
        int kind;
        Place of;
        List<Value> standing = new ArrayList<>();
    }

    static final class Value {
        int number, sort, kind, v;
        boolean done;
        Mark mark;
        List<Value> row = new ArrayList<>();
        Value[] given = new Value[10];
    }

    final List<Mark> marks = new ArrayList<>();
    final List<Place> places = new ArrayList<>();
    final List<Value> values = new ArrayList<>();
    final int[] failures = new int[4];
    int latest = 0;
    String text = "";

    static <T> T at(List<T> list, int i) {
        return i >= 0 && i < list.size() ? list.get(i) : null;
    }

    Element elementOf(Mark m, int name) {
        for (Element e : m.elements) {
            if (e.name == name) {
                return e;
            }
        }
        return null;
    }

    boolean isKind(long kind) {
        return kind >= 0 && kind <= 3 || kind >= 10 && kind < 10 + marks.size();
    }

    int mark(int targets, int keep, boolean inherited) {
        if (targets < 0 || targets > 31 || keep < 0 || keep > 2) {
            return BAD;
        }
        if (marks.size() == 12) {
            return FULL;
        }
        Mark m = new Mark();
        m.number = marks.size();
        m.targets = targets;
        m.keep = keep;
        m.inherited = inherited;
        marks.add(m);
        return m.number;
    }

    boolean fixed(Mark m) {
        boolean is = m.container != null;
        for (Mark o : marks) {
            is = is || o.container == m;
        }
        for (Value v : values) {
            is = is || v.mark == m;
        }
        return is;
    }

    boolean leads(Mark from, Mark to) {
        for (Element e : from.elements) {
            if (e.kind >= 10 && (marks.get(e.kind - 10) == to || leads(marks.get(e.kind - 10), to))) {
                return true;
            }
        }
        return false;
    }

    int depth(Mark m) {
        int depth = 0;
        for (Element e : m.elements) {
            if (e.kind >= 10) {
                depth = Math.max(depth, 1 + depth(marks.get(e.kind - 10)));
            }
        }
        return depth;
    }

    int element(int mark, int name, int kind, boolean row) {
        Mark m = at(marks, mark);
        if (m == null || name < 0 || name > 9 || !isKind(kind) || elementOf(m, name) != null) {
            return BAD;
        }
        if (fixed(m)) {
            return STATE;
        }
        if (kind >= 10 && (kind == 10 + mark || leads(marks.get(kind - 10), m))) {
            return RING;
        }
        Element e = new Element();
        e.name = name;
        e.kind = kind;
        e.row = row;
        m.elements.add(e);
        int deepest = 0;
        for (Mark o : marks) {
            deepest = Math.max(deepest, depth(o));
        }
        if (deepest > 2 || m.elements.size() > 5) {
            m.elements.remove(e);
            return deepest > 2 ? RING : FULL;
        }
        return m.elements.size();
    }

    int failed(int failure) {
        latest = failure;
        failures[failure]++;
        return FAILED;
    }

    boolean isOf(Value v, int kind) {
        return v.sort != 1 && v.kind == kind;
    }

    /** FULL, FAILED or 1 for what would be GIVEN. */
    int judge(Element e, Value v) {
        if (v != null && e.row && isOf(v, e.kind) && values.size() == 100) {
            return FULL;
        }
        if (v == null) {
            return failed(1);
        }
        boolean right = isOf(v, e.kind) || e.row && v.sort == 1 && v.kind == e.kind;
        if (!right) {
            return failed(2);
        }
        latest = 0;
        return 1;
    }

    Value taken(Element e, Value v) {
        Value gets = v;
        if (e.row && v.sort != 1) {
            gets = made(1, e.kind, 0);
            gets.row.add(v);
            v.done = v.sort != 0;
        }
        gets.done = gets.sort != 0;
        return gets;
    }

    int fallback(int mark, int name, int value) {
        Mark m = at(marks, mark);
        Value v = at(values, value);
        if (m == null || elementOf(m, name) == null || v == null && value != NONE) {
            return BAD;
        }
        if (fixed(m) || v != null && (v.done || !whole(v))) {
            return STATE;
        }
        int judged = judge(elementOf(m, name), v);
        if (judged == 1) {
            elementOf(m, name).fallback = taken(elementOf(m, name), v);
        }
        return judged;
    }

    boolean canHold(Mark c, Mark m) {
        Element zero = elementOf(c, 0);
        boolean can = zero != null && zero.row && zero.kind == 10 + m.number;
        for (Element e : c.elements) {
            can = can && (e.name == 0 || e.fallback != null);
        }
        for (int bit = 1; bit <= 16; bit *= 2) {
            can = can && ((c.targets & bit) == 0 || (m.targets & bit) != 0);
        }
        return can && c.keep >= m.keep && (!m.inherited || c.inherited);
    }

    int container(int mark, int c) {
        Mark m = at(marks, mark);
        if (m == null || at(marks, c) == null) {
            return BAD;
        }
        boolean put = false;
        for (Place p : places) {
            put = put || !of(p, m).isEmpty();
        }
        if (m.container != null || put) {
            return STATE;
        }
        if (!canHold(marks.get(c), m)) {
            return 0;
        }
        m.container = marks.get(c);
        return 1;
    }

    int place(int kind, int of) {
        Place o = at(places, of);
        boolean right = false;
        switch (kind) {
            case 0: right = of == NONE || o != null && o.kind == 0; break;
            case 1: right = of == NONE; break;
            case 2: case 3: case 4: right = o != null && o.kind <= 1; break;
            case 5: right = o != null && (o.kind == 3 || o.kind == 4); break;
            default: break;
        }
        if (!right) {
            return BAD;
        }
        if (places.size() == 40) {
            return FULL;
        }
        Place p = new Place();
        p.kind = kind;
        p.of = o;
        places.add(p);
        return places.size() - 1;
    }

    Value made(int sort, int kind, int v) {
        Value made = new Value();
        made.number = values.size();
        made.sort = sort;
        made.kind = kind;
        made.v = v;
        values.add(made);
        return made;
    }

    int value(int kind, int v) {
        boolean right = kind == 0 || kind == 1 && v >= 0 && v <= 99 || kind == 2 && v >= 0 && v <= 4
            || kind == 3 && at(places, v) != null && places.get(v).kind <= 1;
        return !right ? BAD : values.size() == 100 ? FULL : made(0, kind, v).number;
    }

    int row(int kind) {
        return !isKind(kind) ? BAD : values.size() == 100 ? FULL : made(1, kind, 0).number;
    }

    int push(int row, int value) {
        Value r = at(values, row);
        Value v = at(values, value);
        if (r == null || r.sort != 1 || v == null && value != NONE) {
            return BAD;
        }
        if (r.done || v != null && v.done || r == v) {
            return STATE;
        }
        if (r.row.size() == 4) {
            return FULL;
        }
        if (v == null) {
            return failed(1);
        }
        if (!isOf(v, r.kind)) {
            return failed(3);
        }
        latest = 0;
        r.row.add(v);
        v.done = v.sort != 0;
        return r.row.size();
    }

    int instance(int mark) {
        if (at(marks, mark) == null) {
            return BAD;
        }
        if (values.size() == 100) {
            return FULL;
        }
        Value v = made(2, 10 + mark, 0);
        v.mark = marks.get(mark);
        return v.number;
    }

    int give(int instance, int name, int value) {
        Value i = at(values, instance);
        Value v = at(values, value);
        if (i == null || i.sort != 2 || elementOf(i.mark, name) == null || v == null && value != NONE) {
            return BAD;
        }
        if (i.done || i.given[name] != null || v != null && v.done || v == i) {
            return STATE;
        }
        int judged = judge(elementOf(i.mark, name), v);
        if (judged == 1) {
            i.given[name] = taken(elementOf(i.mark, name), v);
        }
        return judged;
    }

    List<Value> of(Place p, Mark m) {
        List<Value> those = new ArrayList<>();
        for (Value v : p.standing) {
            if (v.mark == m) {
                those.add(v);
            }
        }
        return those;
    }

    boolean mayStand(Mark m, Place p) {
        String[] fitting = {"01", "2", "34", "5", "235"};
        for (int bit = 0; bit < 5; bit++) {
            if ((m.targets >> bit & 1) == 1 && fitting[bit].indexOf('0' + p.kind) >= 0) {
                return true;
            }
        }
        return false;
    }

    int put(int place, int instance) {
        Place p = at(places, place);
        Value i = at(values, instance);
        if (p == null || i == null || i.sort != 2) {
            return BAD;
        }
        if (i.done) {
            return STATE;
        }
        if (!mayStand(i.mark, p)) {
            return -11;
        }
        if (!whole(i)) {
            return -12;
        }
        if (!of(p, i.mark).isEmpty() && i.mark.container == null) {
            return -13;
        }
        if (i.mark.container != null && !of(p, i.mark.container).isEmpty()) {
            return -14;
        }
        for (Value v : p.standing) {
            if (v.mark.container == i.mark) {
                return -15;
            }
        }
        if (of(p, i.mark).size() == 4) {
            return FULL;
        }
        i.done = true;
        p.standing.add(i);
        return of(p, i.mark).size();
    }

    int cause() {
        return latest;
    }

    Value had(Value i, Element e) {
        return i.given[e.name] != null ? i.given[e.name] : e.fallback;
    }

    boolean whole(Value v) {
        boolean is = true;
        for (Value in : v.row) {
            is = is && whole(in);
        }
        if (v.sort == 2) {
            for (Element e : v.mark.elements) {
                is = is && had(v, e) != null && whole(had(v, e));
            }
        }
        return is;
    }

    int told(int value, int what) {
        Value v = at(values, value);
        if (v == null || what < 0 || what > 4) {
            return BAD;
        }
        int given = 0;
        for (Value g : v.given) {
            given += g == null ? 0 : 1;
        }
        int number = v.sort == 0 ? v.v : v.sort == 1 ? v.row.size() : given;
        int[] all = {v.sort, v.kind, number, v.done ? 1 : 0, whole(v) ? 1 : 0};
        return all[what];
    }

    static int numberOf(Value v) {
        return v == null ? NONE : v.number;
    }

    int part(int value, int k) {
        Value v = at(values, value);
        if (v == null || v.sort == 0) {
            return BAD;
        }
        if (v.sort == 1) {
            return numberOf(at(v.row, k));
        }
        Element e = elementOf(v.mark, k);
        return e == null ? NONE : numberOf(had(v, e));
    }

    boolean same(Value a, Value b) {
        if (a == null || b == null) {
            return a == b;
        }
        boolean is = a.sort == b.sort && a.kind == b.kind && a.v == b.v && a.row.size() == b.row.size();
        for (int k = 0; is && k < a.row.size(); k++) {
            is = same(a.row.get(k), b.row.get(k));
        }
        if (is && a.sort == 2) {
            for (Element e : a.mark.elements) {
                is = is && same(had(a, e), had(b, e));
            }
        }
        return is;
    }

    int equal(int a, int b) {
        return at(values, a) == null || at(values, b) == null ? BAD : same(values.get(a), values.get(b)) ? 1 : 0;
    }

    String asText(Value v) {
        List<String> parts = new ArrayList<>();
        if (v.sort == 0) {
            return new String[] {"", "w", "c", "t"}[v.kind] + v.v;
        }
        if (v.sort == 1) {
            for (Value in : v.row) {
                parts.add(asText(in));
            }
            return "{" + String.join(",", parts) + "}";
        }
        for (Element e : v.mark.elements) {
            if (had(v, e) != null) {
                parts.add(e.name + "=" + asText(had(v, e)));
            }
        }
        return "@" + v.mark.number + "(" + String.join(",", parts) + ")";
    }

    int written(int value) {
        if (at(values, value) == null) {
            return BAD;
        }
        String now = asText(values.get(value));
        if (now.length() > 2000) {
            return FULL;
        }
        text = now;
        return text.length();
    }

    int letter(int i) {
        return i >= 0 && i < text.length() ? text.charAt(i) : NONE;
    }

    int own(Place p, Mark m) {
        if (m.keep != 2) {
            return NONE;
        }
        if (of(p, m).size() == 1) {
            return of(p, m).get(0).number;
        }
        for (Mark held : marks) {
            if (held.container == m && held.keep == 2 && of(p, held).size() > 1) {
                return -100 - of(p, held).size();
            }
        }
        return NONE;
    }

    int found(Place p, Mark m) {
        int own = own(p, m);
        return own == NONE && m.inherited && p.kind == 0 && p.of != null ? found(p.of, m) : own;
    }

    int ask(int place, int mark, boolean found) {
        Place p = at(places, place);
        Mark m = at(marks, mark);
        return p == null || m == null ? BAD : found ? found(p, m) : own(p, m);
    }

    List<Value> allOf(Place p, Mark m) {
        List<Value> all = m.keep == 2 ? of(p, m) : new ArrayList<>();
        if (m.keep == 2 && all.isEmpty() && m.container != null && own(p, m.container) >= 0) {
            all = had(values.get(own(p, m.container)), elementOf(m.container, 0)).row;
        }
        return all.isEmpty() && m.inherited && p.kind == 0 && p.of != null ? allOf(p.of, m) : all;
    }

    int all(int place, int mark) {
        Place p = at(places, place);
        Mark m = at(marks, mark);
        return p == null || m == null ? BAD : allOf(p, m).size();
    }

    int of(int place, int mark, int i) {
        Place p = at(places, place);
        Mark m = at(marks, mark);
        return p == null || m == null ? BAD : numberOf(at(allOf(p, m), i));
    }

    int stands(int place) {
        return at(places, place) == null ? BAD : places.get(place).standing.size();
    }

    int count(int what) {
        int put = 0;
        for (Place p : places) {
            put += p.standing.size();
        }
        if (what >= 0 && what <= 3) {
            return new int[] {marks.size(), places.size(), values.size(), put}[what];
        }
        if (what >= 11 && what <= 13) {
            return failures[what - 10];
        }
        if (what >= 20 && what < 20 + marks.size()) {
            return marks.get(what - 20).elements.size();
        }
        if (what >= 40 && what < 40 + marks.size()) {
            Mark c = marks.get(what - 40).container;
            return c == null ? NONE : c.number;
        }
        return BAD;
    }
}
