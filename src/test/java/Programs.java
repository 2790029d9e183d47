import java.util.ArrayList;
import java.util.List;

/**
 * Makes programs from a seed, each as a text and as the code that the document gives it, both from
 * the same tree, so that neither needs a reader. Most of them are well typed, so that they run on.
 */
final class Programs {
    private static final int NUMBER = 0;
    private static final int TRUTH = 1;
    private static final int LIST = 2;
    private static final int FUNCTION = 3;
    private static final int TYPES = 4;

    private long seed;
    private final StringBuilder text = new StringBuilder();
    private final List<Character> names = new ArrayList<>();
    private final List<Integer> types = new ArrayList<>();

    Programs(long seed) {
        this.seed = seed;
    }

    /** A part of a program; its code is written behind what is there. */
    interface Part {
        void code(List<int[]> code);
    }

    static final class Program {
        final String text;
        final List<int[]> code;

        Program(String text, List<int[]> code) {
            this.text = text;
            this.code = code;
        }
    }

    int random(int below) {
        seed = seed * 6364136223846793005L + 1442695040888963407L;
        return (int) ((seed >>> 33) % below);
    }

    /** A text of at most 90 characters; its code may have more than 120 instructions. */
    Program next() {
        while (true) {
            text.setLength(0);
            names.clear();
            types.clear();
            Part part = expression(random(TYPES), 0);
            if (text.length() <= 90) {
                List<int[]> code = new ArrayList<>();
                part.code(code);
                put(code, "HALT", 0);
                return new Program(text.toString(), code);
            }
        }
    }

    private static int[] put(List<int[]> code, String kind, int a) {
        int[] instruction = {Check.kindOf(kind), a, 0};
        code.add(instruction);
        return instruction;
    }

    private void write(char c) {
        text.append(c);
    }

    private void bind(char name, int type) {
        names.add(name);
        types.add(type);
    }

    private void unbind(int to) {
        while (names.size() > to) {
            names.remove(names.size() - 1);
            types.remove(types.size() - 1);
        }
    }

    private char anyName() {
        return (char) ('a' + random(random(2) == 0 ? 4 : 26));
    }

    private char nameBut(String others) {
        char name = anyName();
        while (others.indexOf(name) >= 0) {
            name = anyName();
        }
        return name;
    }

    private int goodOrAny(int type) {
        return random(60) == 0 ? random(TYPES) : type;
    }

    private Part expression(int type, int depth) {
        int outer = names.size();
        Part part = headed(goodOrAny(type), depth);
        unbind(outer);
        return part;
    }

    private Part headed(int type, int depth) {
        int choice = random(depth == 0 ? 5 : 9);
        if (depth < 5 && text.length() < 60 && choice == 0) {
            return value(type, depth);
        }
        if (depth < 5 && text.length() < 60 && choice == 1) {
            return self(type, depth);
        }
        if (type == FUNCTION && random(3) > 0) {
            return closure(depth);
        }
        if (depth < 5 && text.length() < 70 && choice == 2) {
            return match(type, depth);
        }
        return comparison(type, depth);
    }

    private Part value(int type, int depth) {
        char x = anyName();
        write(x);
        write('=');
        int bound = random(TYPES);
        Part e = expression(bound, depth + 1);
        write(';');
        bind(x, bound);
        Part rest = headed(type, depth);
        return code -> {
            e.code(code);
            put(code, "BIND", 0);
            rest.code(code);
            put(code, "UNBIND", 1);
        };
    }

    private Part self(int type, int depth) {
        int outer = names.size();
        char f = anyName();
        char x = nameBut(String.valueOf(f));
        write('@');
        write(f);
        write(x);
        write('=');
        bind(f, FUNCTION);
        bind(x, NUMBER);
        Part e = random(3) == 0 ? expression(NUMBER, depth + 1) : countdown(f, x, depth + 1);
        write(';');
        unbind(outer + 1);
        Part rest = headed(type, depth);
        return code -> {
            body(code, "SELF", e);
            put(code, "BIND", 0);
            rest.code(code);
            put(code, "UNBIND", 1);
        };
    }

    /** ?x<1{E:..;A:.. f(x-1);} so that calls end. */
    private Part countdown(char f, char x, int depth) {
        if (depth > 3) {
            return expression(NUMBER, depth);
        }
        for (char c : ("?" + x + "<1{E:").toCharArray()) {
            write(c);
        }
        Part last = expression(NUMBER, depth + 1);
        for (char c : ";A:".toCharArray()) {
            write(c);
        }
        Part first = random(2) == 0 ? atom(NUMBER, depth + 1) : null;
        for (char c : ((first == null ? "" : "+") + f + "(" + x + "-1);}").toCharArray()) {
            write(c);
        }
        return code -> {
            put(code, "ACCESS", 0);
            put(code, "PUSH", 0);
            put(code, "NUMBER", 1);
            put(code, "LESS", 0);
            put(code, "SWITCH", 2);
            int[] yes = put(code, "CASE", 4);
            int[] no = put(code, "CASE", 0);
            yes[2] = code.size();
            last.code(code);
            int[] jump = put(code, "JUMP", 0);
            no[2] = code.size();
            if (first != null) {
                first.code(code);
                put(code, "PUSH", 0);
            }
            put(code, "ACCESS", 0);
            put(code, "PUSH", 0);
            put(code, "NUMBER", 1);
            put(code, "SUBTRACT", 0);
            put(code, "PUSH", 0);
            put(code, "ACCESS", 1);
            put(code, "APPLY", 0);
            if (first != null) {
                put(code, "ADD", 0);
            }
            int[] other = put(code, "JUMP", 0);
            jump[1] = code.size();
            other[1] = code.size();
        };
    }

    private Part closure(int depth) {
        char x = anyName();
        write('\\');
        write(x);
        bind(x, NUMBER);
        Part rest = headed(NUMBER, depth);
        return code -> body(code, "CLOSURE", rest);
    }

    private static void body(List<int[]> code, String kind, Part e) {
        put(code, kind, code.size() + 2);
        int[] jump = put(code, "JUMP", 0);
        e.code(code);
        put(code, "RETURN", 0);
        jump[1] = code.size();
    }

    private Part match(int type, int depth) {
        write('?');
        boolean list = random(2) == 0;
        Part matched = comparison(list ? LIST : TRUTH, depth);
        write('{');
        List<Integer> tags = new ArrayList<>();
        List<Part> bodies = new ArrayList<>();
        int[] usual = list ? new int[] {0, 2} : new int[] {4, 0};
        int turned = random(2);
        for (int i = 0; i < 2; i++) {
            caseOf(usual[i ^ turned], type, depth, tags, bodies);
        }
        for (int tag = 0; tag < 8; tag++) {
            if (!tags.contains(tag) && random(40) == 0) {
                caseOf(tag, type, depth, tags, bodies);
            }
        }
        write('}');
        return code -> {
            matched.code(code);
            put(code, "SWITCH", tags.size());
            int at = code.size();
            for (int tag : tags) {
                put(code, "CASE", tag);
            }
            List<int[]> jumps = new ArrayList<>();
            for (int i = 0; i < tags.size(); i++) {
                code.get(at + i)[2] = code.size();
                int fields = tags.get(i) % 4;
                if (fields > 0) {
                    put(code, "OPEN", fields);
                }
                bodies.get(i).code(code);
                if (fields > 0) {
                    put(code, "UNBIND", fields);
                }
                jumps.add(put(code, "JUMP", 0));
            }
            for (int[] jump : jumps) {
                jump[1] = code.size();
            }
        };
    }

    private void caseOf(int tag, int type, int depth, List<Integer> tags, List<Part> bodies) {
        int outer = names.size();
        write((char) ('A' + tag));
        StringBuilder others = new StringBuilder();
        for (int i = 0; i < tag % 4; i++) {
            char name = nameBut(others.toString());
            others.append(name);
            write(name);
            bind(name, i == 1 ? LIST : NUMBER);
        }
        write(':');
        tags.add(tag);
        bodies.add(expression(type, depth + 1));
        write(';');
        unbind(outer);
    }

    private Part comparison(int type, int depth) {
        if (type != TRUTH || random(4) == 0) {
            return sum(type, depth);
        }
        Part first = sum(NUMBER, depth);
        boolean less = random(2) == 0;
        write(less ? '<' : '~');
        Part second = sum(NUMBER, depth);
        return operation(first, second, less ? "LESS" : "SAME");
    }

    private static Part operation(Part first, Part second, String kind) {
        return code -> {
            first.code(code);
            put(code, "PUSH", 0);
            second.code(code);
            put(code, kind, 0);
        };
    }

    private Part sum(int type, int depth) {
        Part part = product(type, depth);
        while (type == NUMBER && random(4) == 0) {
            boolean plus = random(2) == 0;
            write(plus ? '+' : '-');
            part = operation(part, product(type, depth), plus ? "ADD" : "SUBTRACT");
        }
        return part;
    }

    private Part product(int type, int depth) {
        Part part = application(type, depth);
        while (type == NUMBER && random(8) == 0) {
            write('*');
            part = operation(part, application(type, depth), "MULTIPLY");
        }
        return part;
    }

    private Part application(int type, int depth) {
        List<Part> parts = new ArrayList<>();
        if (type == NUMBER && random(3) == 0 && (depth < 5 || has(FUNCTION))) {
            parts.add(atom(FUNCTION, depth));
            parts.add(argument(depth));
        } else {
            parts.add(atom(type, depth));
        }
        while (random(80) == 0) {
            parts.add(argument(depth));
        }
        return code -> {
            for (int i = parts.size() - 1; i > 0; i--) {
                parts.get(i).code(code);
                put(code, "PUSH", 0);
            }
            parts.get(0).code(code);
            for (int i = 1; i < parts.size(); i++) {
                put(code, "APPLY", 0);
            }
        };
    }

    /** A digit behind a digit would be one numeral with it. */
    private Part argument(int depth) {
        char last = text.charAt(text.length() - 1);
        if (last >= '0' && last <= '9') {
            write('A');
            return code -> put(code, "TAG", 0);
        }
        return atom(NUMBER, depth);
    }

    private boolean has(int type) {
        for (int i = 0; i < names.size(); i++) {
            if (types.get(i) == type && names.lastIndexOf(names.get(i)) == i) {
                return true;
            }
        }
        return false;
    }

    private Part atom(int type, int depth) {
        if (has(type) && random(depth < 5 ? 4 : 40) > 0) {
            return name(type);
        }
        if (depth < 5 && (type == FUNCTION || text.length() < 70 && random(6) == 0)) {
            write('(');
            Part part = expression(type, depth + 1);
            write(')');
            return part;
        }
        if (type == NUMBER) {
            return numeral();
        }
        if (depth < 5 && text.length() < 80 && type == LIST && random(4) > 0) {
            return construction(2, depth);
        }
        if (depth < 5 && text.length() < 70 && random(30) == 0) {
            return construction(random(8), depth);
        }
        int tag = type == TRUTH && random(2) == 0 ? 4 : 0;
        write((char) ('A' + tag));
        return code -> put(code, "TAG", tag);
    }

    private Part name(int type) {
        int i = random(names.size());
        while (types.get(i) != type || names.lastIndexOf(names.get(i)) != i) {
            i = random(names.size());
        }
        write(names.get(i));
        int a = names.size() - 1 - i;
        return code -> put(code, "ACCESS", a);
    }

    private Part numeral() {
        int number = random(10) > 0 ? random(6) : random(10000);
        text.append(number);
        return code -> put(code, "NUMBER", number);
    }

    private Part construction(int tag, int depth) {
        write((char) ('A' + tag));
        int fields = tag % 4;
        List<Part> parts = new ArrayList<>();
        for (int i = 0; i < fields; i++) {
            write(i == 0 ? '(' : ',');
            parts.add(expression(i == 1 ? LIST : random(3) > 0 ? NUMBER : random(TYPES), depth + 1));
        }
        if (fields > 0) {
            write(')');
        }
        return code -> {
            for (int i = 0; i < fields; i++) {
                parts.get(i).code(code);
                if (i + 1 < fields) {
                    put(code, "PUSH", 0);
                }
            }
            put(code, fields == 0 ? "TAG" : "MAKE", tag);
        };
    }
}
